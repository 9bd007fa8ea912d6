theorem dX11_costBy_28 : decode cX11_costBy 28 = .ok (.iload 4, 2) := by decide +kernel
theorem dX11_costBy_30 : decode cX11_costBy 30 = .ok (.iaload, 1) := by decide +kernel
theorem dX11_costBy_31 : decode cX11_costBy 31 = .ok (.if_icmp .gt 24, 3) := by decide +kernel
theorem dX11_costBy_34 : decode cX11_costBy 34 = .ok (.iload 5, 2) := by decide +kernel
theorem dX11_costBy_36 : decode cX11_costBy 36 = .ok (.ifCond .lt 19, 3) := by decide +kernel
theorem dX11_costBy_39 : decode cX11_costBy 39 = .ok (.iload 5, 2) := by decide +kernel
theorem dX11_costBy_41 : decode cX11_costBy 41 = .ok (.ifCond .le 17, 3) := by decide +kernel
theorem dX11_costBy_44 : decode cX11_costBy 44 = .ok (.iload 5, 2) := by decide +kernel
theorem dX11_costBy_46 : decode cX11_costBy 46 = .ok (.aload_n 0, 1) := by decide +kernel
theorem dX11_costBy_47 : decode cX11_costBy 47 = .ok (.getfield 7, 3) := by decide +kernel
theorem dX11_costBy_50 : decode cX11_costBy 50 = .ok (.iconst 0, 1) := by decide +kernel
theorem dX11_costBy_51 : decode cX11_costBy 51 = .ok (.iaload, 1) := by decide +kernel
theorem dX11_costBy_52 : decode cX11_costBy 52 = .ok (.if_icmp .gt 6, 3) := by decide +kernel
theorem dX11_costBy_55 : decode cX11_costBy 55 = .ok (.ldc 200, 2) := by decide +kernel
theorem dX11_costBy_57 : decode cX11_costBy 57 = .ok (.ireturn, 1) := by decide +kernel
theorem dX11_costBy_58 : decode cX11_costBy 58 = .ok (.aload_n 0, 1) := by decide +kernel
theorem dX11_costBy_59 : decode cX11_costBy 59 = .ok (.iload_n 1, 1) := by decide +kernel
theorem dX11_costBy_60 : decode cX11_costBy 60 = .ok (.iload_n 3, 1) := by decide +kernel
theorem dX11_costBy_61 : decode cX11_costBy 61 = .ok (.isub, 1) := by decide +kernel
theorem dX11_costBy_62 : decode cX11_costBy 62 = .ok (.iload 5, 2) := by decide +kernel
theorem dX11_costBy_64 : decode cX11_costBy 64 = .ok (.ifCond .le 12, 3) := by decide +kernel
theorem dX11_costBy_67 : decode cX11_costBy 67 = .ok (.aload_n 0, 1) := by decide +kernel
theorem dX11_costBy_68 : decode cX11_costBy 68 = .ok (.getfield 7, 3) := by decide +kernel
theorem dX11_costBy_71 : decode cX11_costBy 71 = .ok (.iconst 0, 1) := by decide +kernel
theorem dX11_costBy_72 : decode cX11_costBy 72 = .ok (.iaload, 1) := by decide +kernel
theorem dX11_costBy_73 : decode cX11_costBy 73 = .ok (.goto 4, 3) := by decide +kernel
theorem dX11_costBy_76 : decode cX11_costBy 76 = .ok (.iconst 0, 1) := by decide +kernel
theorem dX11_costBy_77 : decode cX11_costBy 77 = .ok (.isub, 1) := by decide +kernel
theorem dX11_costBy_78 : decode cX11_costBy 78 = .ok (.iload_n 2, 1) := by decide +kernel
theorem dX11_costBy_79 : decode cX11_costBy 79 = .ok (.iload 4, 2) := by decide +kernel
theorem dX11_costBy_81 : decode cX11_costBy 81 = .ok (.invokestatic 197, 3) := by decide +kernel
theorem dX11_costBy_84 : decode cX11_costBy 84 = .ok (.isub, 1) := by decide +kernel
theorem dX11_costBy_85 : decode cX11_costBy 85 = .ok (.invokevirtual 201, 3) := by decide +kernel
theorem dX11_costBy_88 : decode cX11_costBy 88 = .ok (.istore 6, 2) := by decide +kernel
theorem dX11_costBy_90 : decode cX11_costBy 90 = .ok (.iload_n 3, 1) := by decide +kernel
theorem dX11_costBy_91 : decode cX11_costBy 91 = .ok (.aload_n 0, 1) := by decide +kernel
theorem dX11_costBy_92 : decode cX11_costBy 92 = .ok (.getfield 40, 3) := by decide +kernel
theorem dX11_costBy_95 : decode cX11_costBy 95 = .ok (.iload 4, 2) := by decide +kernel
theorem dX11_costBy_97 : decode cX11_costBy 97 = .ok (.iaload, 1) := by decide +kernel
theorem dX11_costBy_98 : decode cX11_costBy 98 = .ok (.if_icmp .ge 7, 3) := by decide +kernel
theorem dX11_costBy_101 : decode cX11_costBy 101 = .ok (.iconst 1, 1) := by decide +kernel
theorem dX11_costBy_102 : decode cX11_costBy 102 = .ok (.goto 4, 3) := by decide +kernel
theorem dX11_costBy_105 : decode cX11_costBy 105 = .ok (.iconst 0, 1) := by decide +kernel
theorem dX11_costBy_106 : decode cX11_costBy 106 = .ok (.aload_n 0, 1) := by decide +kernel
theorem dX11_costBy_107 : decode cX11_costBy 107 = .ok (.iload_n 1, 1) := by decide +kernel
theorem dX11_costBy_108 : decode cX11_costBy 108 = .ok (.iload_n 3, 1) := by decide +kernel
theorem dX11_costBy_109 : decode cX11_costBy 109 = .ok (.iload 4, 2) := by decide +kernel
theorem dX11_costBy_111 : decode cX11_costBy 111 = .ok (.invokevirtual 205, 3) := by decide +kernel
theorem dX11_costBy_114 : decode cX11_costBy 114 = .ok (.ifCond .eq 7, 3) := by decide +kernel
theorem dX11_costBy_117 : decode cX11_costBy 117 = .ok (.iconst 1, 1) := by decide +kernel
theorem dX11_costBy_118 : decode cX11_costBy 118 = .ok (.goto 4, 3) := by decide +kernel
theorem dX11_costBy_121 : decode cX11_costBy 121 = .ok (.iconst 0, 1) := by decide +kernel
theorem dX11_costBy_122 : decode cX11_costBy 122 = .ok (.iadd, 1) := by decide +kernel
theorem dX11_costBy_123 : decode cX11_costBy 123 = .ok (.istore 7, 2) := by decide +kernel
theorem dX11_costBy_125 : decode cX11_costBy 125 = .ok (.iload 6, 2) := by decide +kernel
theorem dX11_costBy_127 : decode cX11_costBy 127 = .ok (.ldc 200, 2) := by decide +kernel
theorem dX11_costBy_129 : decode cX11_costBy 129 = .ok (.if_icmp .ne 8, 3) := by decide +kernel
theorem dX11_costBy_132 : decode cX11_costBy 132 = .ok (.ldc 200, 2) := by decide +kernel
theorem dX11_costBy_134 : decode cX11_costBy 134 = .ok (.goto 13, 3) := by decide +kernel
theorem dX11_costBy_137 : decode cX11_costBy 137 = .ok (.iload 6, 2) := by decide +kernel
theorem dX11_costBy_139 : decode cX11_costBy 139 = .ok (.bipush 32, 2) := by decide +kernel
theorem dX11_costBy_141 : decode cX11_costBy 141 = .ok (.iload 7, 2) := by decide +kernel
theorem dX11_costBy_143 : decode cX11_costBy 143 = .ok (.imul, 1) := by decide +kernel
theorem dX11_costBy_144 : decode cX11_costBy 144 = .ok (.iadd, 1) := by decide +kernel
theorem dX11_costBy_145 : decode cX11_costBy 145 = .ok (.iconst 1, 1) := by decide +kernel
theorem dX11_costBy_146 : decode cX11_costBy 146 = .ok (.iadd, 1) := by decide +kernel
theorem dX11_costBy_147 : decode cX11_costBy 147 = .ok (.ireturn, 1) := by decide +kernel
theorem dX11_leastAt_0 : decode cX11_leastAt 0 = .ok (.ldc 200, 2) := by decide +kernel
theorem dX11_leastAt_2 : decode cX11_leastAt 2 = .ok (.istore_n 3, 1) := by decide +kernel
theorem dX11_leastAt_3 : decode cX11_leastAt 3 = .ok (.iconst 1, 1) := by decide +kernel
theorem dX11_leastAt_4 : decode cX11_leastAt 4 = .ok (.istore 4, 2) := by decide +kernel
theorem dX11_leastAt_6 : decode cX11_leastAt 6 = .ok (.iload 4, 2) := by decide +kernel
theorem dX11_leastAt_8 : decode cX11_leastAt 8 = .ok (.aload_n 0, 1) := by decide +kernel
theorem dX11_leastAt_9 : decode cX11_leastAt 9 = .ok (.getfield 40, 3) := by decide +kernel
theorem dX11_leastAt_12 : decode cX11_leastAt 12 = .ok (.iconst 2, 1) := by decide +kernel
theorem dX11_leastAt_13 : decode cX11_leastAt 13 = .ok (.iaload, 1) := by decide +kernel
theorem dX11_leastAt_14 : decode cX11_leastAt 14 = .ok (.if_icmp .gt 60, 3) := by decide +kernel
theorem dX11_leastAt_17 : decode cX11_leastAt 17 = .ok (.iload 4, 2) := by decide +kernel
theorem dX11_leastAt_19 : decode cX11_leastAt 19 = .ok (.aload_n 0, 1) := by decide +kernel
theorem dX11_leastAt_20 : decode cX11_leastAt 20 = .ok (.getfield 68, 3) := by decide +kernel
theorem dX11_leastAt_23 : decode cX11_leastAt 23 = .ok (.iload_n 1, 1) := by decide +kernel
theorem dX11_leastAt_24 : decode cX11_leastAt 24 = .ok (.iaload, 1) := by decide +kernel
theorem dX11_leastAt_25 : decode cX11_leastAt 25 = .ok (.if_icmp .gt 49, 3) := by decide +kernel
theorem dX11_leastAt_28 : decode cX11_leastAt 28 = .ok (.iconst 0, 1) := by decide +kernel
theorem dX11_leastAt_29 : decode cX11_leastAt 29 = .ok (.istore 5, 2) := by decide +kernel
theorem dX11_leastAt_31 : decode cX11_leastAt 31 = .ok (.iload 5, 2) := by decide +kernel
theorem dX11_leastAt_33 : decode cX11_leastAt 33 = .ok (.iconst 3, 1) := by decide +kernel
theorem dX11_leastAt_34 : decode cX11_leastAt 34 = .ok (.if_icmp .ge 34, 3) := by decide +kernel
theorem dX11_leastAt_37 : decode cX11_leastAt 37 = .ok (.aload_n 0, 1) := by decide +kernel
theorem dX11_leastAt_38 : decode cX11_leastAt 38 = .ok (.iload_n 1, 1) := by decide +kernel
theorem dX11_leastAt_39 : decode cX11_leastAt 39 = .ok (.iload_n 2, 1) := by decide +kernel
theorem dX11_leastAt_40 : decode cX11_leastAt 40 = .ok (.iload 4, 2) := by decide +kernel
theorem dX11_leastAt_42 : decode cX11_leastAt 42 = .ok (.iload 5, 2) := by decide +kernel
theorem dX11_leastAt_44 : decode cX11_leastAt 44 = .ok (.invokevirtual 208, 3) := by decide +kernel
theorem dX11_leastAt_47 : decode cX11_leastAt 47 = .ok (.istore 6, 2) := by decide +kernel
theorem dX11_leastAt_49 : decode cX11_leastAt 49 = .ok (.iload 6, 2) := by decide +kernel
theorem dX11_leastAt_51 : decode cX11_leastAt 51 = .ok (.iload_n 3, 1) := by decide +kernel
theorem dX11_leastAt_52 : decode cX11_leastAt 52 = .ok (.if_icmp .ge 8, 3) := by decide +kernel
theorem dX11_leastAt_55 : decode cX11_leastAt 55 = .ok (.iload 6, 2) := by decide +kernel
theorem dX11_leastAt_57 : decode cX11_leastAt 57 = .ok (.goto 4, 3) := by decide +kernel
theorem dX11_leastAt_60 : decode cX11_leastAt 60 = .ok (.iload_n 3, 1) := by decide +kernel
theorem dX11_leastAt_61 : decode cX11_leastAt 61 = .ok (.istore_n 3, 1) := by decide +kernel
theorem dX11_leastAt_62 : decode cX11_leastAt 62 = .ok (.iinc 5 1, 3) := by decide +kernel
theorem dX11_leastAt_65 : decode cX11_leastAt 65 = .ok (.goto (-34), 3) := by decide +kernel
theorem dX11_leastAt_68 : decode cX11_leastAt 68 = .ok (.iinc 4 1, 3) := by decide +kernel
theorem dX11_leastAt_71 : decode cX11_leastAt 71 = .ok (.goto (-65), 3) := by decide +kernel
theorem dX11_leastAt_74 : decode cX11_leastAt 74 = .ok (.iload_n 3, 1) := by decide +kernel
theorem dX11_leastAt_75 : decode cX11_leastAt 75 = .ok (.ireturn, 1) := by decide +kernel
theorem dX11_firstStone_0 : decode cX11_firstStone 0 = .ok (.aload_n 0, 1) := by decide +kernel
theorem dX11_firstStone_1 : decode cX11_firstStone 1 = .ok (.getfield 40, 3) := by decide +kernel
theorem dX11_firstStone_4 : decode cX11_firstStone 4 = .ok (.iconst 2, 1) := by decide +kernel
theorem dX11_firstStone_5 : decode cX11_firstStone 5 = .ok (.iaload, 1) := by decide +kernel
theorem dX11_firstStone_6 : decode cX11_firstStone 6 = .ok (.istore 4, 2) := by decide +kernel
theorem dX11_firstStone_8 : decode cX11_firstStone 8 = .ok (.iload 4, 2) := by decide +kernel
theorem dX11_firstStone_10 : decode cX11_firstStone 10 = .ok (.ifCond .le 95, 3) := by decide +kernel
theorem dX11_firstStone_13 : decode cX11_firstStone 13 = .ok (.iconst 0, 1) := by decide +kernel
theorem dX11_firstStone_14 : decode cX11_firstStone 14 = .ok (.istore 5, 2) := by decide +kernel
theorem dX11_firstStone_16 : decode cX11_firstStone 16 = .ok (.iload 5, 2) := by decide +kernel
theorem dX11_firstStone_18 : decode cX11_firstStone 18 = .ok (.iconst 2, 1) := by decide +kernel
theorem dX11_firstStone_19 : decode cX11_firstStone 19 = .ok (.if_icmp .ge 80, 3) := by decide +kernel
theorem dX11_firstStone_22 : decode cX11_firstStone 22 = .ok (.iconst 0, 1) := by decide +kernel
theorem dX11_firstStone_23 : decode cX11_firstStone 23 = .ok (.istore 6, 2) := by decide +kernel
theorem dX11_firstStone_25 : decode cX11_firstStone 25 = .ok (.iload 6, 2) := by decide +kernel
theorem dX11_firstStone_27 : decode cX11_firstStone 27 = .ok (.iconst 3, 1) := by decide +kernel
theorem dX11_firstStone_28 : decode cX11_firstStone 28 = .ok (.if_icmp .ge 65, 3) := by decide +kernel
theorem dX11_firstStone_31 : decode cX11_firstStone 31 = .ok (.aload_n 0, 1) := by decide +kernel
theorem dX11_firstStone_32 : decode cX11_firstStone 32 = .ok (.getfield 40, 3) := by decide +kernel
theorem dX11_firstStone_35 : decode cX11_firstStone 35 = .ok (.iload 6, 2) := by decide +kernel
theorem dX11_firstStone_37 : decode cX11_firstStone 37 = .ok (.iaload, 1) := by decide +kernel
theorem dX11_firstStone_38 : decode cX11_firstStone 38 = .ok (.iload 4, 2) := by decide +kernel
theorem dX11_firstStone_40 : decode cX11_firstStone 40 = .ok (.if_icmp .ne 7, 3) := by decide +kernel
theorem dX11_firstStone_43 : decode cX11_firstStone 43 = .ok (.iconst 1, 1) := by decide +kernel
theorem dX11_firstStone_44 : decode cX11_firstStone 44 = .ok (.goto 4, 3) := by decide +kernel
theorem dX11_firstStone_47 : decode cX11_firstStone 47 = .ok (.iconst 0, 1) := by decide +kernel
theorem dX11_firstStone_48 : decode cX11_firstStone 48 = .ok (.istore 7, 2) := by decide +kernel
theorem dX11_firstStone_50 : decode cX11_firstStone 50 = .ok (.iload 7, 2) := by decide +kernel
theorem dX11_firstStone_52 : decode cX11_firstStone 52 = .ok (.iload 5, 2) := by decide +kernel
theorem dX11_firstStone_54 : decode cX11_firstStone 54 = .ok (.ifCond .ne 7, 3) := by decide +kernel
theorem dX11_firstStone_57 : decode cX11_firstStone 57 = .ok (.iconst 1, 1) := by decide +kernel
theorem dX11_firstStone_58 : decode cX11_firstStone 58 = .ok (.goto 4, 3) := by decide +kernel
theorem dX11_firstStone_61 : decode cX11_firstStone 61 = .ok (.iconst 0, 1) := by decide +kernel
theorem dX11_firstStone_62 : decode cX11_firstStone 62 = .ok (.if_icmp .ne 25, 3) := by decide +kernel
theorem dX11_firstStone_65 : decode cX11_firstStone 65 = .ok (.aload_n 0, 1) := by decide +kernel
theorem dX11_firstStone_66 : decode cX11_firstStone 66 = .ok (.iload_n 1, 1) := by decide +kernel
theorem dX11_firstStone_67 : decode cX11_firstStone 67 = .ok (.iload_n 2, 1) := by decide +kernel
theorem dX11_firstStone_68 : decode cX11_firstStone 68 = .ok (.iload 4, 2) := by decide +kernel
theorem dX11_firstStone_70 : decode cX11_firstStone 70 = .ok (.iload 6, 2) := by decide +kernel
theorem dX11_firstStone_72 : decode cX11_firstStone 72 = .ok (.invokevirtual 208, 3) := by decide +kernel
theorem dX11_firstStone_75 : decode cX11_firstStone 75 = .ok (.iload_n 3, 1) := by decide +kernel
theorem dX11_firstStone_76 : decode cX11_firstStone 76 = .ok (.if_icmp .ne 11, 3) := by decide +kernel
theorem dX11_firstStone_79 : decode cX11_firstStone 79 = .ok (.iconst 4, 1) := by decide +kernel
theorem dX11_firstStone_80 : decode cX11_firstStone 80 = .ok (.iload 4, 2) := by decide +kernel
theorem dX11_firstStone_82 : decode cX11_firstStone 82 = .ok (.imul, 1) := by decide +kernel
theorem dX11_firstStone_83 : decode cX11_firstStone 83 = .ok (.iload 6, 2) := by decide +kernel
theorem dX11_firstStone_85 : decode cX11_firstStone 85 = .ok (.iadd, 1) := by decide +kernel
theorem dX11_firstStone_86 : decode cX11_firstStone 86 = .ok (.ireturn, 1) := by decide +kernel
theorem dX11_firstStone_87 : decode cX11_firstStone 87 = .ok (.iinc 6 1, 3) := by decide +kernel
theorem dX11_firstStone_90 : decode cX11_firstStone 90 = .ok (.goto (-65), 3) := by decide +kernel
theorem dX11_firstStone_93 : decode cX11_firstStone 93 = .ok (.iinc 5 1, 3) := by decide +kernel
theorem dX11_firstStone_96 : decode cX11_firstStone 96 = .ok (.goto (-80), 3) := by decide +kernel
theorem dX11_firstStone_99 : decode cX11_firstStone 99 = .ok (.iinc 4 (-1), 3) := by decide +kernel
theorem dX11_firstStone_102 : decode cX11_firstStone 102 = .ok (.goto (-94), 3) := by decide +kernel
theorem dX11_firstStone_105 : decode cX11_firstStone 105 = .ok (.bipush (-4), 2) := by decide +kernel
theorem dX11_firstStone_107 : decode cX11_firstStone 107 = .ok (.ireturn, 1) := by decide +kernel
theorem dX11_layRest_0 : decode cX11_layRest 0 = .ok (.iconst 0, 1) := by decide +kernel
theorem dX11_layRest_1 : decode cX11_layRest 1 = .ok (.istore_n 1, 1) := by decide +kernel
theorem dX11_layRest_2 : decode cX11_layRest 2 = .ok (.aload_n 0, 1) := by decide +kernel
theorem dX11_layRest_3 : decode cX11_layRest 3 = .ok (.getfield 183, 3) := by decide +kernel
theorem dX11_layRest_6 : decode cX11_layRest 6 = .ok (.iconst 1, 1) := by decide +kernel
theorem dX11_layRest_7 : decode cX11_layRest 7 = .ok (.isub, 1) := by decide +kernel
theorem dX11_layRest_8 : decode cX11_layRest 8 = .ok (.istore_n 2, 1) := by decide +kernel
theorem dX11_layRest_9 : decode cX11_layRest 9 = .ok (.iload_n 2, 1) := by decide +kernel
theorem dX11_layRest_10 : decode cX11_layRest 10 = .ok (.ifCond .lt 59, 3) := by decide +kernel
theorem dX11_layRest_13 : decode cX11_layRest 13 = .ok (.iconst 1, 1) := by decide +kernel
theorem dX11_layRest_14 : decode cX11_layRest 14 = .ok (.istore_n 3, 1) := by decide +kernel
theorem dX11_layRest_15 : decode cX11_layRest 15 = .ok (.iload_n 3, 1) := by decide +kernel
theorem dX11_layRest_16 : decode cX11_layRest 16 = .ok (.aload_n 0, 1) := by decide +kernel
theorem dX11_layRest_17 : decode cX11_layRest 17 = .ok (.getfield 55, 3) := by decide +kernel
theorem dX11_layRest_20 : decode cX11_layRest 20 = .ok (.iload_n 2, 1) := by decide +kernel
theorem dX11_layRest_21 : decode cX11_layRest 21 = .ok (.iaload, 1) := by decide +kernel
theorem dX11_layRest_22 : decode cX11_layRest 22 = .ok (.if_icmp .gt 32, 3) := by decide +kernel
theorem dX11_layRest_25 : decode cX11_layRest 25 = .ok (.aload_n 0, 1) := by decide +kernel
theorem dX11_layRest_26 : decode cX11_layRest 26 = .ok (.getfield 68, 3) := by decide +kernel
theorem dX11_layRest_29 : decode cX11_layRest 29 = .ok (.iload_n 1, 1) := by decide +kernel
theorem dX11_layRest_30 : decode cX11_layRest 30 = .ok (.iload_n 3, 1) := by decide +kernel
theorem dX11_layRest_31 : decode cX11_layRest 31 = .ok (.iadd, 1) := by decide +kernel
theorem dX11_layRest_32 : decode cX11_layRest 32 = .ok (.iload_n 3, 1) := by decide +kernel
theorem dX11_layRest_33 : decode cX11_layRest 33 = .ok (.iastore, 1) := by decide +kernel
theorem dX11_layRest_34 : decode cX11_layRest 34 = .ok (.aload_n 0, 1) := by decide +kernel
theorem dX11_layRest_35 : decode cX11_layRest 35 = .ok (.getfield 71, 3) := by decide +kernel
theorem dX11_layRest_38 : decode cX11_layRest 38 = .ok (.iload_n 1, 1) := by decide +kernel
theorem dX11_layRest_39 : decode cX11_layRest 39 = .ok (.iload_n 3, 1) := by decide +kernel
theorem dX11_layRest_40 : decode cX11_layRest 40 = .ok (.iadd, 1) := by decide +kernel
theorem dX11_layRest_41 : decode cX11_layRest 41 = .ok (.aload_n 0, 1) := by decide +kernel
theorem dX11_layRest_42 : decode cX11_layRest 42 = .ok (.getfield 58, 3) := by decide +kernel
theorem dX11_layRest_45 : decode cX11_layRest 45 = .ok (.iload_n 2, 1) := by decide +kernel
theorem dX11_layRest_46 : decode cX11_layRest 46 = .ok (.baload, 1) := by decide +kernel
theorem dX11_layRest_47 : decode cX11_layRest 47 = .ok (.bastore, 1) := by decide +kernel
theorem dX11_layRest_48 : decode cX11_layRest 48 = .ok (.iinc 3 1, 3) := by decide +kernel
theorem dX11_layRest_51 : decode cX11_layRest 51 = .ok (.goto (-36), 3) := by decide +kernel
theorem dX11_layRest_54 : decode cX11_layRest 54 = .ok (.iload_n 1, 1) := by decide +kernel
theorem dX11_layRest_55 : decode cX11_layRest 55 = .ok (.aload_n 0, 1) := by decide +kernel
theorem dX11_layRest_56 : decode cX11_layRest 56 = .ok (.getfield 55, 3) := by decide +kernel
theorem dX11_layRest_59 : decode cX11_layRest 59 = .ok (.iload_n 2, 1) := by decide +kernel
theorem dX11_layRest_60 : decode cX11_layRest 60 = .ok (.iaload, 1) := by decide +kernel
theorem dX11_layRest_61 : decode cX11_layRest 61 = .ok (.iadd, 1) := by decide +kernel
theorem dX11_layRest_62 : decode cX11_layRest 62 = .ok (.istore_n 1, 1) := by decide +kernel
theorem dX11_layRest_63 : decode cX11_layRest 63 = .ok (.iinc 2 (-1), 3) := by decide +kernel
theorem dX11_layRest_66 : decode cX11_layRest 66 = .ok (.goto (-57), 3) := by decide +kernel
theorem dX11_layRest_69 : decode cX11_layRest 69 = .ok (.iload_n 1, 1) := by decide +kernel
theorem dX11_layRest_70 : decode cX11_layRest 70 = .ok (.ireturn, 1) := by decide +kernel
theorem dX11_findWay_0 : decode cX11_findWay 0 = .ok (.aload_n 0, 1) := by decide +kernel
theorem dX11_findWay_1 : decode cX11_findWay 1 = .ok (.iload_n 1, 1) := by decide +kernel
theorem dX11_findWay_2 : decode cX11_findWay 2 = .ok (.invokevirtual 193, 3) := by decide +kernel
theorem dX11_findWay_5 : decode cX11_findWay 5 = .ok (.aload_n 0, 1) := by decide +kernel
theorem dX11_findWay_6 : decode cX11_findWay 6 = .ok (.invokevirtual 212, 3) := by decide +kernel
theorem dX11_findWay_9 : decode cX11_findWay 9 = .ok (.istore_n 3, 1) := by decide +kernel
theorem dX11_findWay_10 : decode cX11_findWay 10 = .ok (.iconst 1, 1) := by decide +kernel
theorem dX11_findWay_11 : decode cX11_findWay 11 = .ok (.iconst 3, 1) := by decide +kernel
theorem dX11_findWay_12 : decode cX11_findWay 12 = .ok (.iload_n 2, 1) := by decide +kernel
theorem dX11_findWay_13 : decode cX11_findWay 13 = .ok (.imul, 1) := by decide +kernel
theorem dX11_findWay_14 : decode cX11_findWay 14 = .ok (.iadd, 1) := by decide +kernel
theorem dX11_findWay_15 : decode cX11_findWay 15 = .ok (.istore 4, 2) := by decide +kernel
theorem dX11_findWay_17 : decode cX11_findWay 17 = .ok (.iconst 0, 1) := by decide +kernel
theorem dX11_findWay_18 : decode cX11_findWay 18 = .ok (.istore 5, 2) := by decide +kernel
theorem dX11_findWay_20 : decode cX11_findWay 20 = .ok (.iload 5, 2) := by decide +kernel
theorem dX11_findWay_22 : decode cX11_findWay 22 = .ok (.iload_n 3, 1) := by decide +kernel
theorem dX11_findWay_23 : decode cX11_findWay 23 = .ok (.if_icmp .gt 138, 3) := by decide +kernel
theorem dX11_findWay_26 : decode cX11_findWay 26 = .ok (.iconst 0, 1) := by decide +kernel
theorem dX11_findWay_27 : decode cX11_findWay 27 = .ok (.istore 6, 2) := by decide +kernel
theorem dX11_findWay_29 : decode cX11_findWay 29 = .ok (.iload 6, 2) := by decide +kernel
theorem dX11_findWay_31 : decode cX11_findWay 31 = .ok (.sipush 343, 3) := by decide +kernel
theorem dX11_findWay_34 : decode cX11_findWay 34 = .ok (.if_icmp .ge 121, 3) := by decide +kernel
theorem dX11_findWay_37 : decode cX11_findWay 37 = .ok (.iload 6, 2) := by decide +kernel
theorem dX11_findWay_39 : decode cX11_findWay 39 = .ok (.bipush 49, 2) := by decide +kernel
theorem dX11_findWay_41 : decode cX11_findWay 41 = .ok (.idiv, 1) := by decide +kernel
theorem dX11_findWay_42 : decode cX11_findWay 42 = .ok (.aload_n 0, 1) := by decide +kernel
theorem dX11_findWay_43 : decode cX11_findWay 43 = .ok (.getfield 7, 3) := by decide +kernel
theorem dX11_findWay_46 : decode cX11_findWay 46 = .ok (.iload 4, 2) := by decide +kernel
theorem dX11_findWay_48 : decode cX11_findWay 48 = .ok (.iaload, 1) := by decide +kernel
theorem dX11_findWay_49 : decode cX11_findWay 49 = .ok (.if_icmp .gt 100, 3) := by decide +kernel
theorem dX11_findWay_52 : decode cX11_findWay 52 = .ok (.iload 6, 2) := by decide +kernel
theorem dX11_findWay_54 : decode cX11_findWay 54 = .ok (.bipush 7, 2) := by decide +kernel
theorem dX11_findWay_56 : decode cX11_findWay 56 = .ok (.idiv, 1) := by decide +kernel
theorem dX11_findWay_57 : decode cX11_findWay 57 = .ok (.bipush 7, 2) := by decide +kernel
theorem dX11_findWay_59 : decode cX11_findWay 59 = .ok (.irem, 1) := by decide +kernel
theorem dX11_findWay_60 : decode cX11_findWay 60 = .ok (.aload_n 0, 1) := by decide +kernel
theorem dX11_findWay_61 : decode cX11_findWay 61 = .ok (.getfield 7, 3) := by decide +kernel
theorem dX11_findWay_64 : decode cX11_findWay 64 = .ok (.iload 4, 2) := by decide +kernel
theorem dX11_findWay_66 : decode cX11_findWay 66 = .ok (.iconst 1, 1) := by decide +kernel
theorem dX11_findWay_67 : decode cX11_findWay 67 = .ok (.iadd, 1) := by decide +kernel
theorem dX11_findWay_68 : decode cX11_findWay 68 = .ok (.iaload, 1) := by decide +kernel
theorem dX11_findWay_69 : decode cX11_findWay 69 = .ok (.if_icmp .gt 80, 3) := by decide +kernel
theorem dX11_findWay_72 : decode cX11_findWay 72 = .ok (.iload 6, 2) := by decide +kernel
theorem dX11_findWay_74 : decode cX11_findWay 74 = .ok (.bipush 7, 2) := by decide +kernel
theorem dX11_findWay_76 : decode cX11_findWay 76 = .ok (.irem, 1) := by decide +kernel
theorem dX11_findWay_77 : decode cX11_findWay 77 = .ok (.aload_n 0, 1) := by decide +kernel
theorem dX11_findWay_78 : decode cX11_findWay 78 = .ok (.getfield 7, 3) := by decide +kernel
theorem dX11_findWay_81 : decode cX11_findWay 81 = .ok (.iload 4, 2) := by decide +kernel
theorem dX11_findWay_83 : decode cX11_findWay 83 = .ok (.iconst 2, 1) := by decide +kernel
theorem dX11_findWay_84 : decode cX11_findWay 84 = .ok (.iadd, 1) := by decide +kernel
theorem dX11_findWay_85 : decode cX11_findWay 85 = .ok (.iaload, 1) := by decide +kernel
theorem dX11_findWay_86 : decode cX11_findWay 86 = .ok (.if_icmp .gt 63, 3) := by decide +kernel
theorem dX11_findWay_89 : decode cX11_findWay 89 = .ok (.iload 5, 2) := by decide +kernel
theorem dX11_findWay_91 : decode cX11_findWay 91 = .ok (.ifCond .ne 7, 3) := by decide +kernel
theorem dX11_findWay_94 : decode cX11_findWay 94 = .ok (.iconst 0, 1) := by decide +kernel
theorem dX11_findWay_95 : decode cX11_findWay 95 = .ok (.goto 11, 3) := by decide +kernel
theorem dX11_findWay_98 : decode cX11_findWay 98 = .ok (.aload_n 0, 1) := by decide +kernel
theorem dX11_findWay_99 : decode cX11_findWay 99 = .ok (.iload 5, 2) := by decide +kernel
theorem dX11_findWay_101 : decode cX11_findWay 101 = .ok (.iload 6, 2) := by decide +kernel
theorem dX11_findWay_103 : decode cX11_findWay 103 = .ok (.invokevirtual 215, 3) := by decide +kernel
theorem dX11_findWay_106 : decode cX11_findWay 106 = .ok (.istore 7, 2) := by decide +kernel
theorem dX11_findWay_108 : decode cX11_findWay 108 = .ok (.iload 5, 2) := by decide +kernel
theorem dX11_findWay_110 : decode cX11_findWay 110 = .ok (.iconst 2, 1) := by decide +kernel
theorem dX11_findWay_111 : decode cX11_findWay 111 = .ok (.idiv, 1) := by decide +kernel
theorem dX11_findWay_112 : decode cX11_findWay 112 = .ok (.sipush 343, 3) := by decide +kernel
theorem dX11_findWay_115 : decode cX11_findWay 115 = .ok (.imul, 1) := by decide +kernel
theorem dX11_findWay_116 : decode cX11_findWay 116 = .ok (.iload 6, 2) := by decide +kernel
theorem dX11_findWay_118 : decode cX11_findWay 118 = .ok (.iadd, 1) := by decide +kernel
theorem dX11_findWay_119 : decode cX11_findWay 119 = .ok (.istore 8, 2) := by decide +kernel
theorem dX11_findWay_121 : decode cX11_findWay 121 = .ok (.iload 5, 2) := by decide +kernel
theorem dX11_findWay_123 : decode cX11_findWay 123 = .ok (.iconst 2, 1) := by decide +kernel
theorem dX11_findWay_124 : decode cX11_findWay 124 = .ok (.irem, 1) := by decide +kernel
theorem dX11_findWay_125 : decode cX11_findWay 125 = .ok (.ifCond .ne 15, 3) := by decide +kernel
theorem dX11_findWay_128 : decode cX11_findWay 128 = .ok (.aload_n 0, 1) := by decide +kernel
theorem dX11_findWay_129 : decode cX11_findWay 129 = .ok (.getfield 62, 3) := by decide +kernel
theorem dX11_findWay_132 : decode cX11_findWay 132 = .ok (.iload 8, 2) := by decide +kernel
theorem dX11_findWay_134 : decode cX11_findWay 134 = .ok (.iload 7, 2) := by decide +kernel
theorem dX11_findWay_136 : decode cX11_findWay 136 = .ok (.iastore, 1) := by decide +kernel
theorem dX11_findWay_137 : decode cX11_findWay 137 = .ok (.goto 12, 3) := by decide +kernel
theorem dX11_findWay_140 : decode cX11_findWay 140 = .ok (.aload_n 0, 1) := by decide +kernel
theorem dX11_findWay_141 : decode cX11_findWay 141 = .ok (.getfield 65, 3) := by decide +kernel
theorem dX11_findWay_144 : decode cX11_findWay 144 = .ok (.iload 8, 2) := by decide +kernel
theorem dX11_findWay_146 : decode cX11_findWay 146 = .ok (.iload 7, 2) := by decide +kernel
theorem dX11_findWay_148 : decode cX11_findWay 148 = .ok (.iastore, 1) := by decide +kernel
theorem dX11_findWay_149 : decode cX11_findWay 149 = .ok (.iinc 6 1, 3) := by decide +kernel
theorem dX11_findWay_152 : decode cX11_findWay 152 = .ok (.goto (-123), 3) := by decide +kernel
theorem dX11_findWay_155 : decode cX11_findWay 155 = .ok (.iinc 5 1, 3) := by decide +kernel
theorem dX11_findWay_158 : decode cX11_findWay 158 = .ok (.goto (-138), 3) := by decide +kernel
theorem dX11_findWay_161 : decode cX11_findWay 161 = .ok (.bipush 49, 2) := by decide +kernel
theorem dX11_findWay_163 : decode cX11_findWay 163 = .ok (.aload_n 0, 1) := by decide +kernel
theorem dX11_findWay_164 : decode cX11_findWay 164 = .ok (.getfield 7, 3) := by decide +kernel
theorem dX11_findWay_167 : decode cX11_findWay 167 = .ok (.iload 4, 2) := by decide +kernel
theorem dX11_findWay_169 : decode cX11_findWay 169 = .ok (.iaload, 1) := by decide +kernel
theorem dX11_findWay_170 : decode cX11_findWay 170 = .ok (.imul, 1) := by decide +kernel
theorem dX11_findWay_171 : decode cX11_findWay 171 = .ok (.bipush 7, 2) := by decide +kernel
theorem dX11_findWay_173 : decode cX11_findWay 173 = .ok (.aload_n 0, 1) := by decide +kernel
theorem dX11_findWay_174 : decode cX11_findWay 174 = .ok (.getfield 7, 3) := by decide +kernel
theorem dX11_findWay_177 : decode cX11_findWay 177 = .ok (.iload 4, 2) := by decide +kernel
theorem dX11_findWay_179 : decode cX11_findWay 179 = .ok (.iconst 1, 1) := by decide +kernel
theorem dX11_findWay_180 : decode cX11_findWay 180 = .ok (.iadd, 1) := by decide +kernel
theorem dX11_findWay_181 : decode cX11_findWay 181 = .ok (.iaload, 1) := by decide +kernel
theorem dX11_findWay_182 : decode cX11_findWay 182 = .ok (.imul, 1) := by decide +kernel
theorem dX11_findWay_183 : decode cX11_findWay 183 = .ok (.iadd, 1) := by decide +kernel
theorem dX11_findWay_184 : decode cX11_findWay 184 = .ok (.aload_n 0, 1) := by decide +kernel
theorem dX11_findWay_185 : decode cX11_findWay 185 = .ok (.getfield 7, 3) := by decide +kernel
theorem dX11_findWay_188 : decode cX11_findWay 188 = .ok (.iload 4, 2) := by decide +kernel
theorem dX11_findWay_190 : decode cX11_findWay 190 = .ok (.iconst 2, 1) := by decide +kernel
theorem dX11_findWay_191 : decode cX11_findWay 191 = .ok (.iadd, 1) := by decide +kernel
theorem dX11_findWay_192 : decode cX11_findWay 192 = .ok (.iaload, 1) := by decide +kernel
theorem dX11_findWay_193 : decode cX11_findWay 193 = .ok (.iadd, 1) := by decide +kernel
theorem dX11_findWay_194 : decode cX11_findWay 194 = .ok (.istore 5, 2) := by decide +kernel
theorem dX11_findWay_196 : decode cX11_findWay 196 = .ok (.aload_n 0, 1) := by decide +kernel
theorem dX11_findWay_197 : decode cX11_findWay 197 = .ok (.iload_n 3, 1) := by decide +kernel
theorem dX11_findWay_198 : decode cX11_findWay 198 = .ok (.iload 5, 2) := by decide +kernel
theorem dX11_findWay_200 : decode cX11_findWay 200 = .ok (.invokevirtual 201, 3) := by decide +kernel
theorem dX11_findWay_203 : decode cX11_findWay 203 = .ok (.istore 6, 2) := by decide +kernel
theorem dX11_findWay_205 : decode cX11_findWay 205 = .ok (.iload 6, 2) := by decide +kernel
theorem dX11_findWay_207 : decode cX11_findWay 207 = .ok (.ldc 200, 2) := by decide +kernel
theorem dX11_findWay_209 : decode cX11_findWay 209 = .ok (.if_icmp .ne 5, 3) := by decide +kernel
theorem dX11_findWay_212 : decode cX11_findWay 212 = .ok (.iconst 0, 1) := by decide +kernel
theorem dX11_findWay_213 : decode cX11_findWay 213 = .ok (.ireturn, 1) := by decide +kernel
theorem dX11_findWay_214 : decode cX11_findWay 214 = .ok (.aload_n 0, 1) := by decide +kernel
theorem dX11_findWay_215 : decode cX11_findWay 215 = .ok (.iload 6, 2) := by decide +kernel
theorem dX11_findWay_217 : decode cX11_findWay 217 = .ok (.bipush 32, 2) := by decide +kernel
theorem dX11_findWay_219 : decode cX11_findWay 219 = .ok (.idiv, 1) := by decide +kernel
theorem dX11_findWay_220 : decode cX11_findWay 220 = .ok (.putfield 218, 3) := by decide +kernel
theorem dX11_findWay_223 : decode cX11_findWay 223 = .ok (.aload_n 0, 1) := by decide +kernel
theorem dX11_findWay_224 : decode cX11_findWay 224 = .ok (.iload 6, 2) := by decide +kernel
theorem dX11_findWay_226 : decode cX11_findWay 226 = .ok (.bipush 32, 2) := by decide +kernel
theorem dX11_findWay_228 : decode cX11_findWay 228 = .ok (.irem, 1) := by decide +kernel
theorem dX11_findWay_229 : decode cX11_findWay 229 = .ok (.putfield 221, 3) := by decide +kernel
theorem dX11_findWay_232 : decode cX11_findWay 232 = .ok (.iload_n 3, 1) := by decide +kernel
theorem dX11_findWay_233 : decode cX11_findWay 233 = .ok (.istore 7, 2) := by decide +kernel
theorem dX11_findWay_235 : decode cX11_findWay 235 = .ok (.iconst 0, 1) := by decide +kernel
theorem dX11_findWay_236 : decode cX11_findWay 236 = .ok (.istore 8, 2) := by decide +kernel
theorem dX11_findWay_238 : decode cX11_findWay 238 = .ok (.iload 8, 2) := by decide +kernel
theorem dX11_findWay_240 : decode cX11_findWay 240 = .ok (.aload_n 0, 1) := by decide +kernel
theorem dX11_findWay_241 : decode cX11_findWay 241 = .ok (.getfield 221, 3) := by decide +kernel
theorem dX11_findWay_244 : decode cX11_findWay 244 = .ok (.if_icmp .ge 114, 3) := by decide +kernel
theorem dX11_findWay_247 : decode cX11_findWay 247 = .ok (.aload_n 0, 1) := by decide +kernel
theorem dX11_findWay_248 : decode cX11_findWay 248 = .ok (.iload 7, 2) := by decide +kernel
theorem dX11_findWay_250 : decode cX11_findWay 250 = .ok (.iload 5, 2) := by decide +kernel
theorem dX11_findWay_252 : decode cX11_findWay 252 = .ok (.aload_n 0, 1) := by decide +kernel
theorem dX11_findWay_253 : decode cX11_findWay 253 = .ok (.iload 7, 2) := by decide +kernel
theorem dX11_findWay_255 : decode cX11_findWay 255 = .ok (.iload 5, 2) := by decide +kernel
theorem dX11_findWay_257 : decode cX11_findWay 257 = .ok (.invokevirtual 201, 3) := by decide +kernel
theorem dX11_findWay_260 : decode cX11_findWay 260 = .ok (.invokevirtual 224, 3) := by decide +kernel
theorem dX11_findWay_263 : decode cX11_findWay 263 = .ok (.istore 9, 2) := by decide +kernel
theorem dX11_findWay_265 : decode cX11_findWay 265 = .ok (.iload 9, 2) := by decide +kernel
theorem dX11_findWay_267 : decode cX11_findWay 267 = .ok (.iconst 4, 1) := by decide +kernel
theorem dX11_findWay_268 : decode cX11_findWay 268 = .ok (.idiv, 1) := by decide +kernel
theorem dX11_findWay_269 : decode cX11_findWay 269 = .ok (.istore 10, 2) := by decide +kernel
theorem dX11_findWay_271 : decode cX11_findWay 271 = .ok (.aload_n 0, 1) := by decide +kernel
theorem dX11_findWay_272 : decode cX11_findWay 272 = .ok (.getfield 74, 3) := by decide +kernel
theorem dX11_findWay_275 : decode cX11_findWay 275 = .ok (.iload 8, 2) := by decide +kernel
theorem dX11_findWay_277 : decode cX11_findWay 277 = .ok (.iload 10, 2) := by decide +kernel
theorem dX11_findWay_279 : decode cX11_findWay 279 = .ok (.iastore, 1) := by decide +kernel
theorem dX11_findWay_280 : decode cX11_findWay 280 = .ok (.aload_n 0, 1) := by decide +kernel
theorem dX11_findWay_281 : decode cX11_findWay 281 = .ok (.getfield 77, 3) := by decide +kernel
theorem dX11_findWay_284 : decode cX11_findWay 284 = .ok (.iload 8, 2) := by decide +kernel
theorem dX11_findWay_286 : decode cX11_findWay 286 = .ok (.iload 9, 2) := by decide +kernel
theorem dX11_findWay_288 : decode cX11_findWay 288 = .ok (.iconst 4, 1) := by decide +kernel
theorem dX11_findWay_289 : decode cX11_findWay 289 = .ok (.irem, 1) := by decide +kernel
theorem dX11_findWay_290 : decode cX11_findWay 290 = .ok (.iastore, 1) := by decide +kernel
theorem dX11_findWay_291 : decode cX11_findWay 291 = .ok (.aload_n 0, 1) := by decide +kernel
theorem dX11_findWay_292 : decode cX11_findWay 292 = .ok (.getfield 80, 3) := by decide +kernel
theorem dX11_findWay_295 : decode cX11_findWay 295 = .ok (.iload 8, 2) := by decide +kernel
theorem dX11_findWay_297 : decode cX11_findWay 297 = .ok (.aload_n 0, 1) := by decide +kernel
theorem dX11_findWay_298 : decode cX11_findWay 298 = .ok (.iload 7, 2) := by decide +kernel
theorem dX11_findWay_300 : decode cX11_findWay 300 = .ok (.iload 10, 2) := by decide +kernel
theorem dX11_findWay_302 : decode cX11_findWay 302 = .ok (.iload 9, 2) := by decide +kernel
theorem dX11_findWay_304 : decode cX11_findWay 304 = .ok (.iconst 4, 1) := by decide +kernel
theorem dX11_findWay_305 : decode cX11_findWay 305 = .ok (.irem, 1) := by decide +kernel
theorem dX11_findWay_306 : decode cX11_findWay 306 = .ok (.invokevirtual 205, 3) := by decide +kernel
theorem dX11_findWay_309 : decode cX11_findWay 309 = .ok (.bastore, 1) := by decide +kernel
theorem dX11_findWay_310 : decode cX11_findWay 310 = .ok (.iload 7, 2) := by decide +kernel
theorem dX11_findWay_312 : decode cX11_findWay 312 = .ok (.iload 10, 2) := by decide +kernel
theorem dX11_findWay_314 : decode cX11_findWay 314 = .ok (.iload 10, 2) := by decide +kernel
theorem dX11_findWay_316 : decode cX11_findWay 316 = .ok (.aload_n 0, 1) := by decide +kernel
theorem dX11_findWay_317 : decode cX11_findWay 317 = .ok (.getfield 68, 3) := by decide +kernel
theorem dX11_findWay_320 : decode cX11_findWay 320 = .ok (.iload 7, 2) := by decide +kernel
theorem dX11_findWay_322 : decode cX11_findWay 322 = .ok (.iaload, 1) := by decide +kernel
theorem dX11_findWay_323 : decode cX11_findWay 323 = .ok (.if_icmp .ge 12, 3) := by decide +kernel
theorem dX11_findWay_326 : decode cX11_findWay 326 = .ok (.aload_n 0, 1) := by decide +kernel
theorem dX11_findWay_327 : decode cX11_findWay 327 = .ok (.getfield 7, 3) := by decide +kernel
theorem dX11_findWay_330 : decode cX11_findWay 330 = .ok (.iconst 0, 1) := by decide +kernel
theorem dX11_findWay_331 : decode cX11_findWay 331 = .ok (.iaload, 1) := by decide +kernel
theorem dX11_findWay_332 : decode cX11_findWay 332 = .ok (.goto 4, 3) := by decide +kernel
theorem dX11_findWay_335 : decode cX11_findWay 335 = .ok (.iconst 0, 1) := by decide +kernel
theorem dX11_findWay_336 : decode cX11_findWay 336 = .ok (.iadd, 1) := by decide +kernel
theorem dX11_findWay_337 : decode cX11_findWay 337 = .ok (.isub, 1) := by decide +kernel
theorem dX11_findWay_338 : decode cX11_findWay 338 = .ok (.istore 7, 2) := by decide +kernel
theorem dX11_findWay_340 : decode cX11_findWay 340 = .ok (.iload 5, 2) := by decide +kernel
theorem dX11_findWay_342 : decode cX11_findWay 342 = .ok (.iload 9, 2) := by decide +kernel
theorem dX11_findWay_344 : decode cX11_findWay 344 = .ok (.iconst 4, 1) := by decide +kernel
theorem dX11_findWay_345 : decode cX11_findWay 345 = .ok (.irem, 1) := by decide +kernel
theorem dX11_findWay_346 : decode cX11_findWay 346 = .ok (.invokestatic 197, 3) := by decide +kernel
theorem dX11_findWay_349 : decode cX11_findWay 349 = .ok (.isub, 1) := by decide +kernel
theorem dX11_findWay_350 : decode cX11_findWay 350 = .ok (.istore 5, 2) := by decide +kernel
theorem dX11_findWay_352 : decode cX11_findWay 352 = .ok (.iinc 8 1, 3) := by decide +kernel
theorem dX11_findWay_355 : decode cX11_findWay 355 = .ok (.goto (-117), 3) := by decide +kernel
theorem dX11_findWay_358 : decode cX11_findWay 358 = .ok (.iconst 1, 1) := by decide +kernel
theorem dX11_findWay_359 : decode cX11_findWay 359 = .ok (.ireturn, 1) := by decide +kernel
theorem dX11_way_0 : decode cX11_way 0 = .ok (.aload_n 0, 1) := by decide +kernel
theorem dX11_way_1 : decode cX11_way 1 = .ok (.iload_n 1, 1) := by decide +kernel
theorem dX11_way_2 : decode cX11_way 2 = .ok (.invokevirtual 176, 3) := by decide +kernel
theorem dX11_way_5 : decode cX11_way 5 = .ok (.ifCond .eq 16, 3) := by decide +kernel
theorem dX11_way_8 : decode cX11_way 8 = .ok (.iload_n 2, 1) := by decide +kernel
theorem dX11_way_9 : decode cX11_way 9 = .ok (.invokestatic 148, 3) := by decide +kernel
theorem dX11_way_12 : decode cX11_way 12 = .ok (.ifCond .eq 9, 3) := by decide +kernel
theorem dX11_way_15 : decode cX11_way 15 = .ok (.iload_n 3, 1) := by decide +kernel
theorem dX11_way_16 : decode cX11_way 16 = .ok (.bipush (-2), 2) := by decide +kernel
theorem dX11_way_18 : decode cX11_way 18 = .ok (.if_icmp .ge 5, 3) := by decide +kernel
theorem dX11_way_21 : decode cX11_way 21 = .ok (.iconst (-1), 1) := by decide +kernel
theorem dX11_way_22 : decode cX11_way 22 = .ok (.ireturn, 1) := by decide +kernel
theorem dX11_way_23 : decode cX11_way 23 = .ok (.aload_n 0, 1) := by decide +kernel
theorem dX11_way_24 : decode cX11_way 24 = .ok (.iload_n 1, 1) := by decide +kernel
theorem dX11_way_25 : decode cX11_way 25 = .ok (.invokevirtual 190, 3) := by decide +kernel
theorem dX11_way_28 : decode cX11_way 28 = .ok (.ifCond .eq 6, 3) := by decide +kernel
theorem dX11_way_31 : decode cX11_way 31 = .ok (.bipush (-2), 2) := by decide +kernel
theorem dX11_way_33 : decode cX11_way 33 = .ok (.ireturn, 1) := by decide +kernel
theorem dX11_way_34 : decode cX11_way 34 = .ok (.aload_n 0, 1) := by decide +kernel
theorem dX11_way_35 : decode cX11_way 35 = .ok (.iload_n 1, 1) := by decide +kernel
theorem dX11_way_36 : decode cX11_way 36 = .ok (.iload_n 2, 1) := by decide +kernel
theorem dX11_way_37 : decode cX11_way 37 = .ok (.invokevirtual 228, 3) := by decide +kernel
theorem dX11_way_40 : decode cX11_way 40 = .ok (.ifCond .ne 6, 3) := by decide +kernel
theorem dX11_way_43 : decode cX11_way 43 = .ok (.bipush (-4), 2) := by decide +kernel
theorem dX11_way_45 : decode cX11_way 45 = .ok (.ireturn, 1) := by decide +kernel
theorem dX11_way_46 : decode cX11_way 46 = .ok (.iload_n 3, 1) := by decide +kernel
theorem dX11_way_47 : decode cX11_way 47 = .ok (.ifCond .ge 20, 3) := by decide +kernel
theorem dX11_way_50 : decode cX11_way 50 = .ok (.iload_n 3, 1) := by decide +kernel
theorem dX11_way_51 : decode cX11_way 51 = .ok (.iconst (-1), 1) := by decide +kernel
theorem dX11_way_52 : decode cX11_way 52 = .ok (.if_icmp .ne 10, 3) := by decide +kernel
theorem dX11_way_55 : decode cX11_way 55 = .ok (.aload_n 0, 1) := by decide +kernel
theorem dX11_way_56 : decode cX11_way 56 = .ok (.getfield 218, 3) := by decide +kernel
theorem dX11_way_59 : decode cX11_way 59 = .ok (.goto 7, 3) := by decide +kernel
theorem dX11_way_62 : decode cX11_way 62 = .ok (.aload_n 0, 1) := by decide +kernel
theorem dX11_way_63 : decode cX11_way 63 = .ok (.getfield 221, 3) := by decide +kernel
theorem dX11_way_66 : decode cX11_way 66 = .ok (.ireturn, 1) := by decide +kernel
theorem dX11_way_67 : decode cX11_way 67 = .ok (.iload_n 3, 1) := by decide +kernel
theorem dX11_way_68 : decode cX11_way 68 = .ok (.aload_n 0, 1) := by decide +kernel
theorem dX11_way_69 : decode cX11_way 69 = .ok (.getfield 221, 3) := by decide +kernel
theorem dX11_way_72 : decode cX11_way 72 = .ok (.if_icmp .lt 6, 3) := by decide +kernel
theorem dX11_way_75 : decode cX11_way 75 = .ok (.bipush (-4), 2) := by decide +kernel
theorem dX11_way_77 : decode cX11_way 77 = .ok (.ireturn, 1) := by decide +kernel
theorem dX11_way_78 : decode cX11_way 78 = .ok (.bipush 20, 2) := by decide +kernel
theorem dX11_way_80 : decode cX11_way 80 = .ok (.aload_n 0, 1) := by decide +kernel
theorem dX11_way_81 : decode cX11_way 81 = .ok (.getfield 74, 3) := by decide +kernel
theorem dX11_way_84 : decode cX11_way 84 = .ok (.iload_n 3, 1) := by decide +kernel
theorem dX11_way_85 : decode cX11_way 85 = .ok (.iaload, 1) := by decide +kernel
theorem dX11_way_86 : decode cX11_way 86 = .ok (.imul, 1) := by decide +kernel
theorem dX11_way_87 : decode cX11_way 87 = .ok (.iconst 2, 1) := by decide +kernel
theorem dX11_way_88 : decode cX11_way 88 = .ok (.aload_n 0, 1) := by decide +kernel
theorem dX11_way_89 : decode cX11_way 89 = .ok (.getfield 77, 3) := by decide +kernel
theorem dX11_way_92 : decode cX11_way 92 = .ok (.iload_n 3, 1) := by decide +kernel
theorem dX11_way_93 : decode cX11_way 93 = .ok (.iaload, 1) := by decide +kernel
theorem dX11_way_94 : decode cX11_way 94 = .ok (.imul, 1) := by decide +kernel
theorem dX11_way_95 : decode cX11_way 95 = .ok (.iadd, 1) := by decide +kernel
theorem dX11_way_96 : decode cX11_way 96 = .ok (.aload_n 0, 1) := by decide +kernel
theorem dX11_way_97 : decode cX11_way 97 = .ok (.getfield 74, 3) := by decide +kernel
theorem dX11_way_100 : decode cX11_way 100 = .ok (.iload_n 3, 1) := by decide +kernel
theorem dX11_way_101 : decode cX11_way 101 = .ok (.iaload, 1) := by decide +kernel
theorem dX11_way_102 : decode cX11_way 102 = .ok (.aload_n 0, 1) := by decide +kernel
theorem dX11_way_103 : decode cX11_way 103 = .ok (.getfield 40, 3) := by decide +kernel
theorem dX11_way_106 : decode cX11_way 106 = .ok (.aload_n 0, 1) := by decide +kernel
theorem dX11_way_107 : decode cX11_way 107 = .ok (.getfield 77, 3) := by decide +kernel
theorem dX11_way_110 : decode cX11_way 110 = .ok (.iload_n 3, 1) := by decide +kernel
theorem dX11_way_111 : decode cX11_way 111 = .ok (.iaload, 1) := by decide +kernel
theorem dX11_way_112 : decode cX11_way 112 = .ok (.iaload, 1) := by decide +kernel
theorem dX11_way_113 : decode cX11_way 113 = .ok (.if_icmp .ge 7, 3) := by decide +kernel
theorem dX11_way_116 : decode cX11_way 116 = .ok (.iconst 1, 1) := by decide +kernel
theorem dX11_way_117 : decode cX11_way 117 = .ok (.goto 4, 3) := by decide +kernel
theorem dX11_way_120 : decode cX11_way 120 = .ok (.iconst 0, 1) := by decide +kernel
theorem dX11_way_121 : decode cX11_way 121 = .ok (.iadd, 1) := by decide +kernel
theorem dX11_way_122 : decode cX11_way 122 = .ok (.ireturn, 1) := by decide +kernel
theorem dX11_best_0 : decode cX11_best 0 = .ok (.aload_n 0, 1) := by decide +kernel
theorem dX11_best_1 : decode cX11_best 1 = .ok (.iload_n 1, 1) := by decide +kernel
theorem dX11_best_2 : decode cX11_best 2 = .ok (.invokevirtual 176, 3) := by decide +kernel
theorem dX11_best_5 : decode cX11_best 5 = .ok (.ifCond .ne 5, 3) := by decide +kernel
theorem dX11_best_8 : decode cX11_best 8 = .ok (.iconst (-1), 1) := by decide +kernel
theorem dX11_best_9 : decode cX11_best 9 = .ok (.ireturn, 1) := by decide +kernel
theorem dX11_best_10 : decode cX11_best 10 = .ok (.aload_n 0, 1) := by decide +kernel
theorem dX11_best_11 : decode cX11_best 11 = .ok (.iload_n 1, 1) := by decide +kernel
theorem dX11_best_12 : decode cX11_best 12 = .ok (.invokevirtual 190, 3) := by decide +kernel
theorem dX11_best_15 : decode cX11_best 15 = .ok (.ifCond .eq 6, 3) := by decide +kernel
theorem dX11_best_18 : decode cX11_best 18 = .ok (.bipush (-2), 2) := by decide +kernel
theorem dX11_best_20 : decode cX11_best 20 = .ok (.ireturn, 1) := by decide +kernel
theorem dX11_best_21 : decode cX11_best 21 = .ok (.bipush (-4), 2) := by decide +kernel
theorem dX11_best_23 : decode cX11_best 23 = .ok (.istore_n 2, 1) := by decide +kernel
theorem dX11_best_24 : decode cX11_best 24 = .ok (.ldc 200, 2) := by decide +kernel
theorem dX11_best_26 : decode cX11_best 26 = .ok (.istore_n 3, 1) := by decide +kernel
theorem dX11_best_27 : decode cX11_best 27 = .ok (.iconst 0, 1) := by decide +kernel
theorem dX11_best_28 : decode cX11_best 28 = .ok (.istore 4, 2) := by decide +kernel
theorem dX11_best_30 : decode cX11_best 30 = .ok (.iload 4, 2) := by decide +kernel
theorem dX11_best_32 : decode cX11_best 32 = .ok (.iconst 3, 1) := by decide +kernel
theorem dX11_best_33 : decode cX11_best 33 = .ok (.if_icmp .ge 35, 3) := by decide +kernel
theorem dX11_best_36 : decode cX11_best 36 = .ok (.aload_n 0, 1) := by decide +kernel
theorem dX11_best_37 : decode cX11_best 37 = .ok (.iload_n 1, 1) := by decide +kernel
theorem dX11_best_38 : decode cX11_best 38 = .ok (.iload 4, 2) := by decide +kernel
theorem dX11_best_40 : decode cX11_best 40 = .ok (.invokevirtual 228, 3) := by decide +kernel
theorem dX11_best_43 : decode cX11_best 43 = .ok (.ifCond .eq 19, 3) := by decide +kernel
theorem dX11_best_46 : decode cX11_best 46 = .ok (.aload_n 0, 1) := by decide +kernel
theorem dX11_best_47 : decode cX11_best 47 = .ok (.getfield 218, 3) := by decide +kernel
theorem dX11_best_50 : decode cX11_best 50 = .ok (.iload_n 3, 1) := by decide +kernel
theorem dX11_best_51 : decode cX11_best 51 = .ok (.if_icmp .ge 11, 3) := by decide +kernel
theorem dX11_best_54 : decode cX11_best 54 = .ok (.iload 4, 2) := by decide +kernel
theorem dX11_best_56 : decode cX11_best 56 = .ok (.istore_n 2, 1) := by decide +kernel
theorem dX11_best_57 : decode cX11_best 57 = .ok (.aload_n 0, 1) := by decide +kernel
theorem dX11_best_58 : decode cX11_best 58 = .ok (.getfield 218, 3) := by decide +kernel
theorem dX11_best_61 : decode cX11_best 61 = .ok (.istore_n 3, 1) := by decide +kernel
theorem dX11_best_62 : decode cX11_best 62 = .ok (.iinc 4 1, 3) := by decide +kernel
theorem dX11_best_65 : decode cX11_best 65 = .ok (.goto (-35), 3) := by decide +kernel
theorem dX11_best_68 : decode cX11_best 68 = .ok (.iload_n 2, 1) := by decide +kernel
theorem dX11_best_69 : decode cX11_best 69 = .ok (.ireturn, 1) := by decide +kernel
theorem dX11_coverBy_0 : decode cX11_coverBy 0 = .ok (.iconst 0, 1) := by decide +kernel
theorem dX11_coverBy_1 : decode cX11_coverBy 1 = .ok (.istore_n 3, 1) := by decide +kernel
theorem dX11_coverBy_2 : decode cX11_coverBy 2 = .ok (.iload_n 3, 1) := by decide +kernel
theorem dX11_coverBy_3 : decode cX11_coverBy 3 = .ok (.aload_n 0, 1) := by decide +kernel
theorem dX11_coverBy_4 : decode cX11_coverBy 4 = .ok (.getfield 221, 3) := by decide +kernel
theorem dX11_coverBy_7 : decode cX11_coverBy 7 = .ok (.if_icmp .ge 137, 3) := by decide +kernel
theorem dX11_coverBy_10 : decode cX11_coverBy 10 = .ok (.aload_n 0, 1) := by decide +kernel
theorem dX11_coverBy_11 : decode cX11_coverBy 11 = .ok (.getfield 77, 3) := by decide +kernel
theorem dX11_coverBy_14 : decode cX11_coverBy 14 = .ok (.iload_n 3, 1) := by decide +kernel
theorem dX11_coverBy_15 : decode cX11_coverBy 15 = .ok (.iaload, 1) := by decide +kernel
theorem dX11_coverBy_16 : decode cX11_coverBy 16 = .ok (.istore 4, 2) := by decide +kernel
theorem dX11_coverBy_18 : decode cX11_coverBy 18 = .ok (.aload_n 0, 1) := by decide +kernel
theorem dX11_coverBy_19 : decode cX11_coverBy 19 = .ok (.getfield 40, 3) := by decide +kernel
theorem dX11_coverBy_22 : decode cX11_coverBy 22 = .ok (.iload 4, 2) := by decide +kernel
theorem dX11_coverBy_24 : decode cX11_coverBy 24 = .ok (.iaload, 1) := by decide +kernel
theorem dX11_coverBy_25 : decode cX11_coverBy 25 = .ok (.aload_n 0, 1) := by decide +kernel
theorem dX11_coverBy_26 : decode cX11_coverBy 26 = .ok (.getfield 74, 3) := by decide +kernel
theorem dX11_coverBy_29 : decode cX11_coverBy 29 = .ok (.iload_n 3, 1) := by decide +kernel
theorem dX11_coverBy_30 : decode cX11_coverBy 30 = .ok (.iaload, 1) := by decide +kernel
theorem dX11_coverBy_31 : decode cX11_coverBy 31 = .ok (.isub, 1) := by decide +kernel
theorem dX11_coverBy_32 : decode cX11_coverBy 32 = .ok (.istore 5, 2) := by decide +kernel
theorem dX11_coverBy_34 : decode cX11_coverBy 34 = .ok (.iload 5, 2) := by decide +kernel
theorem dX11_coverBy_36 : decode cX11_coverBy 36 = .ok (.ifCond .ne 16, 3) := by decide +kernel
theorem dX11_coverBy_39 : decode cX11_coverBy 39 = .ok (.aload_n 0, 1) := by decide +kernel
theorem dX11_coverBy_40 : decode cX11_coverBy 40 = .ok (.getfield 80, 3) := by decide +kernel
theorem dX11_coverBy_43 : decode cX11_coverBy 43 = .ok (.iload_n 3, 1) := by decide +kernel
theorem dX11_coverBy_44 : decode cX11_coverBy 44 = .ok (.baload, 1) := by decide +kernel
theorem dX11_coverBy_45 : decode cX11_coverBy 45 = .ok (.ifCond .ne 7, 3) := by decide +kernel
theorem dX11_coverBy_48 : decode cX11_coverBy 48 = .ok (.iconst 1, 1) := by decide +kernel
theorem dX11_coverBy_49 : decode cX11_coverBy 49 = .ok (.goto 4, 3) := by decide +kernel
theorem dX11_coverBy_52 : decode cX11_coverBy 52 = .ok (.iconst 0, 1) := by decide +kernel
theorem dX11_coverBy_53 : decode cX11_coverBy 53 = .ok (.istore 6, 2) := by decide +kernel
theorem dX11_coverBy_55 : decode cX11_coverBy 55 = .ok (.aload_n 0, 1) := by decide +kernel
theorem dX11_coverBy_56 : decode cX11_coverBy 56 = .ok (.getfield 7, 3) := by decide +kernel
theorem dX11_coverBy_59 : decode cX11_coverBy 59 = .ok (.iconst 1, 1) := by decide +kernel
theorem dX11_coverBy_60 : decode cX11_coverBy 60 = .ok (.iconst 3, 1) := by decide +kernel
theorem dX11_coverBy_61 : decode cX11_coverBy 61 = .ok (.iload_n 2, 1) := by decide +kernel
theorem dX11_coverBy_62 : decode cX11_coverBy 62 = .ok (.imul, 1) := by decide +kernel
theorem dX11_coverBy_63 : decode cX11_coverBy 63 = .ok (.iadd, 1) := by decide +kernel
theorem dX11_coverBy_64 : decode cX11_coverBy 64 = .ok (.iload 4, 2) := by decide +kernel
theorem dX11_coverBy_66 : decode cX11_coverBy 66 = .ok (.iadd, 1) := by decide +kernel
theorem dX11_coverBy_67 : decode cX11_coverBy 67 = .ok (.dup2, 1) := by decide +kernel
theorem dX11_coverBy_68 : decode cX11_coverBy 68 = .ok (.iaload, 1) := by decide +kernel
theorem dX11_coverBy_69 : decode cX11_coverBy 69 = .ok (.iconst 1, 1) := by decide +kernel
theorem dX11_coverBy_70 : decode cX11_coverBy 70 = .ok (.isub, 1) := by decide +kernel
theorem dX11_coverBy_71 : decode cX11_coverBy 71 = .ok (.iastore, 1) := by decide +kernel
theorem dX11_coverBy_72 : decode cX11_coverBy 72 = .ok (.aload_n 0, 1) := by decide +kernel
theorem dX11_coverBy_73 : decode cX11_coverBy 73 = .ok (.getfield 7, 3) := by decide +kernel
theorem dX11_coverBy_76 : decode cX11_coverBy 76 = .ok (.bipush 32, 2) := by decide +kernel
theorem dX11_coverBy_78 : decode cX11_coverBy 78 = .ok (.dup2, 1) := by decide +kernel
theorem dX11_coverBy_79 : decode cX11_coverBy 79 = .ok (.iaload, 1) := by decide +kernel
theorem dX11_coverBy_80 : decode cX11_coverBy 80 = .ok (.iload 5, 2) := by decide +kernel
theorem dX11_coverBy_82 : decode cX11_coverBy 82 = .ok (.iadd, 1) := by decide +kernel
theorem dX11_coverBy_83 : decode cX11_coverBy 83 = .ok (.iastore, 1) := by decide +kernel
theorem dX11_coverBy_84 : decode cX11_coverBy 84 = .ok (.aload_n 0, 1) := by decide +kernel
theorem dX11_coverBy_85 : decode cX11_coverBy 85 = .ok (.getfield 7, 3) := by decide +kernel
theorem dX11_coverBy_88 : decode cX11_coverBy 88 = .ok (.bipush 19, 2) := by decide +kernel
theorem dX11_coverBy_90 : decode cX11_coverBy 90 = .ok (.iconst 3, 1) := by decide +kernel
theorem dX11_coverBy_91 : decode cX11_coverBy 91 = .ok (.iload_n 1, 1) := by decide +kernel
theorem dX11_coverBy_92 : decode cX11_coverBy 92 = .ok (.imul, 1) := by decide +kernel
theorem dX11_coverBy_93 : decode cX11_coverBy 93 = .ok (.iadd, 1) := by decide +kernel
theorem dX11_coverBy_94 : decode cX11_coverBy 94 = .ok (.iload 4, 2) := by decide +kernel
theorem dX11_coverBy_96 : decode cX11_coverBy 96 = .ok (.iadd, 1) := by decide +kernel
theorem dX11_coverBy_97 : decode cX11_coverBy 97 = .ok (.dup2, 1) := by decide +kernel
theorem dX11_coverBy_98 : decode cX11_coverBy 98 = .ok (.iaload, 1) := by decide +kernel
theorem dX11_coverBy_99 : decode cX11_coverBy 99 = .ok (.iload 6, 2) := by decide +kernel
theorem dX11_coverBy_101 : decode cX11_coverBy 101 = .ok (.ifCond .eq 7, 3) := by decide +kernel
theorem dX11_coverBy_104 : decode cX11_coverBy 104 = .ok (.iconst 1, 1) := by decide +kernel
theorem dX11_coverBy_105 : decode cX11_coverBy 105 = .ok (.goto 4, 3) := by decide +kernel
theorem dX11_coverBy_108 : decode cX11_coverBy 108 = .ok (.iconst 0, 1) := by decide +kernel
theorem dX11_coverBy_109 : decode cX11_coverBy 109 = .ok (.iadd, 1) := by decide +kernel
theorem dX11_coverBy_110 : decode cX11_coverBy 110 = .ok (.iastore, 1) := by decide +kernel
theorem dX11_coverBy_111 : decode cX11_coverBy 111 = .ok (.aload_n 0, 1) := by decide +kernel
theorem dX11_coverBy_112 : decode cX11_coverBy 112 = .ok (.getfield 7, 3) := by decide +kernel
theorem dX11_coverBy_115 : decode cX11_coverBy 115 = .ok (.bipush 28, 2) := by decide +kernel
theorem dX11_coverBy_117 : decode cX11_coverBy 117 = .ok (.iload_n 1, 1) := by decide +kernel
theorem dX11_coverBy_118 : decode cX11_coverBy 118 = .ok (.iadd, 1) := by decide +kernel
theorem dX11_coverBy_119 : decode cX11_coverBy 119 = .ok (.dup2, 1) := by decide +kernel
theorem dX11_coverBy_120 : decode cX11_coverBy 120 = .ok (.iaload, 1) := by decide +kernel
theorem dX11_coverBy_121 : decode cX11_coverBy 121 = .ok (.iload 6, 2) := by decide +kernel
theorem dX11_coverBy_123 : decode cX11_coverBy 123 = .ok (.ifCond .eq 7, 3) := by decide +kernel
theorem dX11_coverBy_126 : decode cX11_coverBy 126 = .ok (.iconst 0, 1) := by decide +kernel
theorem dX11_coverBy_127 : decode cX11_coverBy 127 = .ok (.goto 9, 3) := by decide +kernel
theorem dX11_coverBy_130 : decode cX11_coverBy 130 = .ok (.aload_n 0, 1) := by decide +kernel
theorem dX11_coverBy_131 : decode cX11_coverBy 131 = .ok (.getfield 74, 3) := by decide +kernel
theorem dX11_coverBy_134 : decode cX11_coverBy 134 = .ok (.iload_n 3, 1) := by decide +kernel
theorem dX11_coverBy_135 : decode cX11_coverBy 135 = .ok (.iaload, 1) := by decide +kernel
theorem dX11_coverBy_136 : decode cX11_coverBy 136 = .ok (.iadd, 1) := by decide +kernel
theorem dX11_coverBy_137 : decode cX11_coverBy 137 = .ok (.iastore, 1) := by decide +kernel
theorem dX11_coverBy_138 : decode cX11_coverBy 138 = .ok (.iinc 3 1, 3) := by decide +kernel
theorem dX11_coverBy_141 : decode cX11_coverBy 141 = .ok (.goto (-139), 3) := by decide +kernel
theorem dX11_coverBy_144 : decode cX11_coverBy 144 = .ok (.aload_n 0, 1) := by decide +kernel
theorem dX11_coverBy_145 : decode cX11_coverBy 145 = .ok (.getfield 7, 3) := by decide +kernel
theorem dX11_coverBy_148 : decode cX11_coverBy 148 = .ok (.bipush 10, 2) := by decide +kernel
theorem dX11_coverBy_150 : decode cX11_coverBy 150 = .ok (.iload_n 1, 1) := by decide +kernel
theorem dX11_coverBy_151 : decode cX11_coverBy 151 = .ok (.iadd, 1) := by decide +kernel
theorem dX11_coverBy_152 : decode cX11_coverBy 152 = .ok (.iload_n 2, 1) := by decide +kernel
theorem dX11_coverBy_153 : decode cX11_coverBy 153 = .ok (.iastore, 1) := by decide +kernel
theorem dX11_coverBy_154 : decode cX11_coverBy 154 = .ok (.aload_n 0, 1) := by decide +kernel
theorem dX11_coverBy_155 : decode cX11_coverBy 155 = .ok (.getfield 7, 3) := by decide +kernel
theorem dX11_coverBy_158 : decode cX11_coverBy 158 = .ok (.bipush 13, 2) := by decide +kernel
theorem dX11_coverBy_160 : decode cX11_coverBy 160 = .ok (.iload_n 1, 1) := by decide +kernel
theorem dX11_coverBy_161 : decode cX11_coverBy 161 = .ok (.iadd, 1) := by decide +kernel
theorem dX11_coverBy_162 : decode cX11_coverBy 162 = .ok (.aload_n 0, 1) := by decide +kernel
theorem dX11_coverBy_163 : decode cX11_coverBy 163 = .ok (.getfield 221, 3) := by decide +kernel
theorem dX11_coverBy_166 : decode cX11_coverBy 166 = .ok (.iastore, 1) := by decide +kernel
theorem dX11_coverBy_167 : decode cX11_coverBy 167 = .ok (.aload_n 0, 1) := by decide +kernel
theorem dX11_coverBy_168 : decode cX11_coverBy 168 = .ok (.getfield 7, 3) := by decide +kernel
theorem dX11_coverBy_171 : decode cX11_coverBy 171 = .ok (.bipush 16, 2) := by decide +kernel
theorem dX11_coverBy_173 : decode cX11_coverBy 173 = .ok (.iload_n 1, 1) := by decide +kernel
theorem dX11_coverBy_174 : decode cX11_coverBy 174 = .ok (.iadd, 1) := by decide +kernel
theorem dX11_coverBy_175 : decode cX11_coverBy 175 = .ok (.aload_n 0, 1) := by decide +kernel
theorem dX11_coverBy_176 : decode cX11_coverBy 176 = .ok (.getfield 218, 3) := by decide +kernel
theorem dX11_coverBy_179 : decode cX11_coverBy 179 = .ok (.iastore, 1) := by decide +kernel
theorem dX11_coverBy_180 : decode cX11_coverBy 180 = .ok (.aload_n 0, 1) := by decide +kernel
theorem dX11_coverBy_181 : decode cX11_coverBy 181 = .ok (.getfield 7, 3) := by decide +kernel
theorem dX11_coverBy_184 : decode cX11_coverBy 184 = .ok (.bipush 31, 2) := by decide +kernel
theorem dX11_coverBy_186 : decode cX11_coverBy 186 = .ok (.dup2, 1) := by decide +kernel
theorem dX11_coverBy_187 : decode cX11_coverBy 187 = .ok (.iaload, 1) := by decide +kernel
theorem dX11_coverBy_188 : decode cX11_coverBy 188 = .ok (.aload_n 0, 1) := by decide +kernel
theorem dX11_coverBy_189 : decode cX11_coverBy 189 = .ok (.getfield 218, 3) := by decide +kernel
theorem dX11_coverBy_192 : decode cX11_coverBy 192 = .ok (.iadd, 1) := by decide +kernel
theorem dX11_coverBy_193 : decode cX11_coverBy 193 = .ok (.iastore, 1) := by decide +kernel
theorem dX11_coverBy_194 : decode cX11_coverBy 194 = .ok (.iconst 0, 1) := by decide +kernel
theorem dX11_coverBy_195 : decode cX11_coverBy 195 = .ok (.istore_n 3, 1) := by decide +kernel
theorem dX11_coverBy_196 : decode cX11_coverBy 196 = .ok (.iload_n 3, 1) := by decide +kernel
theorem dX11_coverBy_197 : decode cX11_coverBy 197 = .ok (.aload_n 0, 1) := by decide +kernel
theorem dX11_coverBy_198 : decode cX11_coverBy 198 = .ok (.getfield 49, 3) := by decide +kernel
theorem dX11_coverBy_201 : decode cX11_coverBy 201 = .ok (.iload_n 1, 1) := by decide +kernel
theorem dX11_coverBy_202 : decode cX11_coverBy 202 = .ok (.iaload, 1) := by decide +kernel
theorem dX11_coverBy_203 : decode cX11_coverBy 203 = .ok (.if_icmp .ge 55, 3) := by decide +kernel
theorem dX11_coverBy_206 : decode cX11_coverBy 206 = .ok (.bipush 33, 2) := by decide +kernel
theorem dX11_coverBy_208 : decode cX11_coverBy 208 = .ok (.aload_n 0, 1) := by decide +kernel
theorem dX11_coverBy_209 : decode cX11_coverBy 209 = .ok (.getfield 52, 3) := by decide +kernel
theorem dX11_coverBy_212 : decode cX11_coverBy 212 = .ok (.bipush 60, 2) := by decide +kernel
theorem dX11_coverBy_214 : decode cX11_coverBy 214 = .ok (.iload_n 1, 1) := by decide +kernel
theorem dX11_coverBy_215 : decode cX11_coverBy 215 = .ok (.imul, 1) := by decide +kernel
theorem dX11_coverBy_216 : decode cX11_coverBy 216 = .ok (.iload_n 3, 1) := by decide +kernel
theorem dX11_coverBy_217 : decode cX11_coverBy 217 = .ok (.iadd, 1) := by decide +kernel
theorem dX11_coverBy_218 : decode cX11_coverBy 218 = .ok (.iaload, 1) := by decide +kernel
theorem dX11_coverBy_219 : decode cX11_coverBy 219 = .ok (.iadd, 1) := by decide +kernel
theorem dX11_coverBy_220 : decode cX11_coverBy 220 = .ok (.istore 4, 2) := by decide +kernel
theorem dX11_coverBy_222 : decode cX11_coverBy 222 = .ok (.aload_n 0, 1) := by decide +kernel
theorem dX11_coverBy_223 : decode cX11_coverBy 223 = .ok (.getfield 7, 3) := by decide +kernel
theorem dX11_coverBy_226 : decode cX11_coverBy 226 = .ok (.iload 4, 2) := by decide +kernel
theorem dX11_coverBy_228 : decode cX11_coverBy 228 = .ok (.aload_n 0, 1) := by decide +kernel
theorem dX11_coverBy_229 : decode cX11_coverBy 229 = .ok (.getfield 7, 3) := by decide +kernel
theorem dX11_coverBy_232 : decode cX11_coverBy 232 = .ok (.iload 4, 2) := by decide +kernel
theorem dX11_coverBy_234 : decode cX11_coverBy 234 = .ok (.iaload, 1) := by decide +kernel
theorem dX11_coverBy_235 : decode cX11_coverBy 235 = .ok (.bipush (-4), 2) := by decide +kernel
theorem dX11_coverBy_237 : decode cX11_coverBy 237 = .ok (.if_icmp .ne 7, 3) := by decide +kernel
theorem dX11_coverBy_240 : decode cX11_coverBy 240 = .ok (.iload_n 1, 1) := by decide +kernel
theorem dX11_coverBy_241 : decode cX11_coverBy 241 = .ok (.goto 10, 3) := by decide +kernel
theorem dX11_coverBy_244 : decode cX11_coverBy 244 = .ok (.aload_n 0, 1) := by decide +kernel
theorem dX11_coverBy_245 : decode cX11_coverBy 245 = .ok (.getfield 7, 3) := by decide +kernel
theorem dX11_coverBy_248 : decode cX11_coverBy 248 = .ok (.iload 4, 2) := by decide +kernel
theorem dX11_coverBy_250 : decode cX11_coverBy 250 = .ok (.iaload, 1) := by decide +kernel
theorem dX11_coverBy_251 : decode cX11_coverBy 251 = .ok (.iastore, 1) := by decide +kernel
theorem dX11_coverBy_252 : decode cX11_coverBy 252 = .ok (.iinc 3 1, 3) := by decide +kernel
theorem dX11_coverBy_255 : decode cX11_coverBy 255 = .ok (.goto (-59), 3) := by decide +kernel
theorem dX11_coverBy_258 : decode cX11_coverBy 258 = .ok (.return_, 1) := by decide +kernel
theorem dX11_cover_0 : decode cX11_cover 0 = .ok (.aload_n 0, 1) := by decide +kernel
theorem dX11_cover_1 : decode cX11_cover 1 = .ok (.iload_n 1, 1) := by decide +kernel
theorem dX11_cover_2 : decode cX11_cover 2 = .ok (.invokevirtual 176, 3) := by decide +kernel
theorem dX11_cover_5 : decode cX11_cover 5 = .ok (.ifCond .eq 10, 3) := by decide +kernel
theorem dX11_cover_8 : decode cX11_cover 8 = .ok (.iload_n 2, 1) := by decide +kernel
theorem dX11_cover_9 : decode cX11_cover 9 = .ok (.invokestatic 148, 3) := by decide +kernel
theorem dX11_cover_12 : decode cX11_cover 12 = .ok (.ifCond .ne 5, 3) := by decide +kernel
theorem dX11_cover_15 : decode cX11_cover 15 = .ok (.iconst (-1), 1) := by decide +kernel
theorem dX11_cover_16 : decode cX11_cover 16 = .ok (.ireturn, 1) := by decide +kernel
theorem dX11_cover_17 : decode cX11_cover 17 = .ok (.aload_n 0, 1) := by decide +kernel
theorem dX11_cover_18 : decode cX11_cover 18 = .ok (.iload_n 1, 1) := by decide +kernel
theorem dX11_cover_19 : decode cX11_cover 19 = .ok (.invokevirtual 190, 3) := by decide +kernel
theorem dX11_cover_22 : decode cX11_cover 22 = .ok (.ifCond .eq 6, 3) := by decide +kernel
theorem dX11_cover_25 : decode cX11_cover 25 = .ok (.bipush (-2), 2) := by decide +kernel
