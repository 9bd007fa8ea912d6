theorem dX1_begin_18 : decode cX1_begin 18 = .ok (.iconst 0, 1) := by decide +kernel
theorem dX1_begin_19 : decode cX1_begin 19 = .ok (.aload_n 0, 1) := by decide +kernel
theorem dX1_begin_20 : decode cX1_begin 20 = .ok (.getfield 15, 3) := by decide +kernel
theorem dX1_begin_23 : decode cX1_begin 23 = .ok (.arraylength, 1) := by decide +kernel
theorem dX1_begin_24 : decode cX1_begin 24 = .ok (.invokestatic 42, 3) := by decide +kernel
theorem dX1_begin_27 : decode cX1_begin 27 = .ok (.iconst 0, 1) := by decide +kernel
theorem dX1_begin_28 : decode cX1_begin 28 = .ok (.istore_n 2, 1) := by decide +kernel
theorem dX1_begin_29 : decode cX1_begin 29 = .ok (.iload_n 2, 1) := by decide +kernel
theorem dX1_begin_30 : decode cX1_begin 30 = .ok (.iconst 3, 1) := by decide +kernel
theorem dX1_begin_31 : decode cX1_begin 31 = .ok (.if_icmp .ge 14, 3) := by decide +kernel
theorem dX1_begin_34 : decode cX1_begin 34 = .ok (.aload_n 0, 1) := by decide +kernel
theorem dX1_begin_35 : decode cX1_begin 35 = .ok (.iload_n 2, 1) := by decide +kernel
theorem dX1_begin_36 : decode cX1_begin 36 = .ok (.invokevirtual 48, 3) := by decide +kernel
theorem dX1_begin_39 : decode cX1_begin 39 = .ok (.iinc 2 1, 3) := by decide +kernel
theorem dX1_begin_42 : decode cX1_begin 42 = .ok (.goto (-13), 3) := by decide +kernel
theorem dX1_begin_45 : decode cX1_begin 45 = .ok (.aload_n 0, 1) := by decide +kernel
theorem dX1_begin_46 : decode cX1_begin 46 = .ok (.aload_n 1, 1) := by decide +kernel
theorem dX1_begin_47 : decode cX1_begin 47 = .ok (.getfield 52, 3) := by decide +kernel
theorem dX1_begin_50 : decode cX1_begin 50 = .ok (.putfield 56, 3) := by decide +kernel
theorem dX1_begin_53 : decode cX1_begin 53 = .ok (.aload_n 0, 1) := by decide +kernel
theorem dX1_begin_54 : decode cX1_begin 54 = .ok (.iconst 0, 1) := by decide +kernel
theorem dX1_begin_55 : decode cX1_begin 55 = .ok (.putfield 57, 3) := by decide +kernel
theorem dX1_begin_58 : decode cX1_begin 58 = .ok (.aload_n 0, 1) := by decide +kernel
theorem dX1_begin_59 : decode cX1_begin 59 = .ok (.iconst 0, 1) := by decide +kernel
theorem dX1_begin_60 : decode cX1_begin 60 = .ok (.putfield 60, 3) := by decide +kernel
theorem dX1_begin_63 : decode cX1_begin 63 = .ok (.return_, 1) := by decide +kernel
theorem dX1_copy_0 : decode cX1_copy 0 = .ok (.aload_n 1, 1) := by decide +kernel
theorem dX1_copy_1 : decode cX1_copy 1 = .ok (.getfield 9, 3) := by decide +kernel
theorem dX1_copy_4 : decode cX1_copy 4 = .ok (.iconst 0, 1) := by decide +kernel
theorem dX1_copy_5 : decode cX1_copy 5 = .ok (.aload_n 0, 1) := by decide +kernel
theorem dX1_copy_6 : decode cX1_copy 6 = .ok (.getfield 9, 3) := by decide +kernel
theorem dX1_copy_9 : decode cX1_copy 9 = .ok (.iconst 0, 1) := by decide +kernel
theorem dX1_copy_10 : decode cX1_copy 10 = .ok (.aload_n 0, 1) := by decide +kernel
theorem dX1_copy_11 : decode cX1_copy 11 = .ok (.getfield 9, 3) := by decide +kernel
theorem dX1_copy_14 : decode cX1_copy 14 = .ok (.arraylength, 1) := by decide +kernel
theorem dX1_copy_15 : decode cX1_copy 15 = .ok (.invokestatic 42, 3) := by decide +kernel
theorem dX1_copy_18 : decode cX1_copy 18 = .ok (.aload_n 1, 1) := by decide +kernel
theorem dX1_copy_19 : decode cX1_copy 19 = .ok (.getfield 15, 3) := by decide +kernel
theorem dX1_copy_22 : decode cX1_copy 22 = .ok (.iconst 0, 1) := by decide +kernel
theorem dX1_copy_23 : decode cX1_copy 23 = .ok (.aload_n 0, 1) := by decide +kernel
theorem dX1_copy_24 : decode cX1_copy 24 = .ok (.getfield 15, 3) := by decide +kernel
theorem dX1_copy_27 : decode cX1_copy 27 = .ok (.iconst 0, 1) := by decide +kernel
theorem dX1_copy_28 : decode cX1_copy 28 = .ok (.aload_n 0, 1) := by decide +kernel
theorem dX1_copy_29 : decode cX1_copy 29 = .ok (.getfield 15, 3) := by decide +kernel
theorem dX1_copy_32 : decode cX1_copy 32 = .ok (.arraylength, 1) := by decide +kernel
theorem dX1_copy_33 : decode cX1_copy 33 = .ok (.invokestatic 42, 3) := by decide +kernel
theorem dX1_copy_36 : decode cX1_copy 36 = .ok (.aload_n 1, 1) := by decide +kernel
theorem dX1_copy_37 : decode cX1_copy 37 = .ok (.getfield 18, 3) := by decide +kernel
theorem dX1_copy_40 : decode cX1_copy 40 = .ok (.iconst 0, 1) := by decide +kernel
theorem dX1_copy_41 : decode cX1_copy 41 = .ok (.aload_n 0, 1) := by decide +kernel
theorem dX1_copy_42 : decode cX1_copy 42 = .ok (.getfield 18, 3) := by decide +kernel
theorem dX1_copy_45 : decode cX1_copy 45 = .ok (.iconst 0, 1) := by decide +kernel
theorem dX1_copy_46 : decode cX1_copy 46 = .ok (.aload_n 0, 1) := by decide +kernel
theorem dX1_copy_47 : decode cX1_copy 47 = .ok (.getfield 18, 3) := by decide +kernel
theorem dX1_copy_50 : decode cX1_copy 50 = .ok (.arraylength, 1) := by decide +kernel
theorem dX1_copy_51 : decode cX1_copy 51 = .ok (.invokestatic 42, 3) := by decide +kernel
theorem dX1_copy_54 : decode cX1_copy 54 = .ok (.aload_n 1, 1) := by decide +kernel
theorem dX1_copy_55 : decode cX1_copy 55 = .ok (.getfield 21, 3) := by decide +kernel
theorem dX1_copy_58 : decode cX1_copy 58 = .ok (.iconst 0, 1) := by decide +kernel
theorem dX1_copy_59 : decode cX1_copy 59 = .ok (.aload_n 0, 1) := by decide +kernel
theorem dX1_copy_60 : decode cX1_copy 60 = .ok (.getfield 21, 3) := by decide +kernel
theorem dX1_copy_63 : decode cX1_copy 63 = .ok (.iconst 0, 1) := by decide +kernel
theorem dX1_copy_64 : decode cX1_copy 64 = .ok (.aload_n 0, 1) := by decide +kernel
theorem dX1_copy_65 : decode cX1_copy 65 = .ok (.getfield 21, 3) := by decide +kernel
theorem dX1_copy_68 : decode cX1_copy 68 = .ok (.arraylength, 1) := by decide +kernel
theorem dX1_copy_69 : decode cX1_copy 69 = .ok (.invokestatic 42, 3) := by decide +kernel
theorem dX1_copy_72 : decode cX1_copy 72 = .ok (.aload_n 1, 1) := by decide +kernel
theorem dX1_copy_73 : decode cX1_copy 73 = .ok (.getfield 24, 3) := by decide +kernel
theorem dX1_copy_76 : decode cX1_copy 76 = .ok (.iconst 0, 1) := by decide +kernel
theorem dX1_copy_77 : decode cX1_copy 77 = .ok (.aload_n 0, 1) := by decide +kernel
theorem dX1_copy_78 : decode cX1_copy 78 = .ok (.getfield 24, 3) := by decide +kernel
theorem dX1_copy_81 : decode cX1_copy 81 = .ok (.iconst 0, 1) := by decide +kernel
theorem dX1_copy_82 : decode cX1_copy 82 = .ok (.aload_n 0, 1) := by decide +kernel
theorem dX1_copy_83 : decode cX1_copy 83 = .ok (.getfield 24, 3) := by decide +kernel
theorem dX1_copy_86 : decode cX1_copy 86 = .ok (.arraylength, 1) := by decide +kernel
theorem dX1_copy_87 : decode cX1_copy 87 = .ok (.invokestatic 42, 3) := by decide +kernel
theorem dX1_copy_90 : decode cX1_copy 90 = .ok (.aload_n 1, 1) := by decide +kernel
theorem dX1_copy_91 : decode cX1_copy 91 = .ok (.getfield 27, 3) := by decide +kernel
theorem dX1_copy_94 : decode cX1_copy 94 = .ok (.iconst 0, 1) := by decide +kernel
theorem dX1_copy_95 : decode cX1_copy 95 = .ok (.aload_n 0, 1) := by decide +kernel
theorem dX1_copy_96 : decode cX1_copy 96 = .ok (.getfield 27, 3) := by decide +kernel
theorem dX1_copy_99 : decode cX1_copy 99 = .ok (.iconst 0, 1) := by decide +kernel
theorem dX1_copy_100 : decode cX1_copy 100 = .ok (.aload_n 0, 1) := by decide +kernel
theorem dX1_copy_101 : decode cX1_copy 101 = .ok (.getfield 27, 3) := by decide +kernel
theorem dX1_copy_104 : decode cX1_copy 104 = .ok (.arraylength, 1) := by decide +kernel
theorem dX1_copy_105 : decode cX1_copy 105 = .ok (.invokestatic 42, 3) := by decide +kernel
theorem dX1_copy_108 : decode cX1_copy 108 = .ok (.aload_n 1, 1) := by decide +kernel
theorem dX1_copy_109 : decode cX1_copy 109 = .ok (.getfield 30, 3) := by decide +kernel
theorem dX1_copy_112 : decode cX1_copy 112 = .ok (.iconst 0, 1) := by decide +kernel
theorem dX1_copy_113 : decode cX1_copy 113 = .ok (.aload_n 0, 1) := by decide +kernel
theorem dX1_copy_114 : decode cX1_copy 114 = .ok (.getfield 30, 3) := by decide +kernel
theorem dX1_copy_117 : decode cX1_copy 117 = .ok (.iconst 0, 1) := by decide +kernel
theorem dX1_copy_118 : decode cX1_copy 118 = .ok (.aload_n 0, 1) := by decide +kernel
theorem dX1_copy_119 : decode cX1_copy 119 = .ok (.getfield 30, 3) := by decide +kernel
theorem dX1_copy_122 : decode cX1_copy 122 = .ok (.arraylength, 1) := by decide +kernel
theorem dX1_copy_123 : decode cX1_copy 123 = .ok (.invokestatic 42, 3) := by decide +kernel
theorem dX1_copy_126 : decode cX1_copy 126 = .ok (.aload_n 0, 1) := by decide +kernel
theorem dX1_copy_127 : decode cX1_copy 127 = .ok (.aload_n 1, 1) := by decide +kernel
theorem dX1_copy_128 : decode cX1_copy 128 = .ok (.getfield 56, 3) := by decide +kernel
theorem dX1_copy_131 : decode cX1_copy 131 = .ok (.putfield 56, 3) := by decide +kernel
theorem dX1_copy_134 : decode cX1_copy 134 = .ok (.aload_n 0, 1) := by decide +kernel
theorem dX1_copy_135 : decode cX1_copy 135 = .ok (.aload_n 1, 1) := by decide +kernel
theorem dX1_copy_136 : decode cX1_copy 136 = .ok (.getfield 57, 3) := by decide +kernel
theorem dX1_copy_139 : decode cX1_copy 139 = .ok (.putfield 57, 3) := by decide +kernel
theorem dX1_copy_142 : decode cX1_copy 142 = .ok (.aload_n 0, 1) := by decide +kernel
theorem dX1_copy_143 : decode cX1_copy 143 = .ok (.aload_n 1, 1) := by decide +kernel
theorem dX1_copy_144 : decode cX1_copy 144 = .ok (.getfield 60, 3) := by decide +kernel
theorem dX1_copy_147 : decode cX1_copy 147 = .ok (.putfield 60, 3) := by decide +kernel
theorem dX1_copy_150 : decode cX1_copy 150 = .ok (.return_, 1) := by decide +kernel
theorem dX1_isCovered_0 : decode cX1_isCovered 0 = .ok (.aload_n 0, 1) := by decide +kernel
theorem dX1_isCovered_1 : decode cX1_isCovered 1 = .ok (.getfield 18, 3) := by decide +kernel
theorem dX1_isCovered_4 : decode cX1_isCovered 4 = .ok (.iload_n 1, 1) := by decide +kernel
theorem dX1_isCovered_5 : decode cX1_isCovered 5 = .ok (.iaload, 1) := by decide +kernel
theorem dX1_isCovered_6 : decode cX1_isCovered 6 = .ok (.bipush (-4), 2) := by decide +kernel
theorem dX1_isCovered_8 : decode cX1_isCovered 8 = .ok (.if_icmp .eq 7, 3) := by decide +kernel
theorem dX1_isCovered_11 : decode cX1_isCovered 11 = .ok (.iconst 1, 1) := by decide +kernel
theorem dX1_isCovered_12 : decode cX1_isCovered 12 = .ok (.goto 4, 3) := by decide +kernel
theorem dX1_isCovered_15 : decode cX1_isCovered 15 = .ok (.iconst 0, 1) := by decide +kernel
theorem dX1_isCovered_16 : decode cX1_isCovered 16 = .ok (.ireturn, 1) := by decide +kernel
theorem dX1_cellsOf_0 : decode cX1_cellsOf 0 = .ok (.iconst 0, 1) := by decide +kernel
theorem dX1_cellsOf_1 : decode cX1_cellsOf 1 = .ok (.istore_n 3, 1) := by decide +kernel
theorem dX1_cellsOf_2 : decode cX1_cellsOf 2 = .ok (.iconst 0, 1) := by decide +kernel
theorem dX1_cellsOf_3 : decode cX1_cellsOf 3 = .ok (.istore 4, 2) := by decide +kernel
theorem dX1_cellsOf_5 : decode cX1_cellsOf 5 = .ok (.iload 4, 2) := by decide +kernel
theorem dX1_cellsOf_7 : decode cX1_cellsOf 7 = .ok (.aload_n 2, 1) := by decide +kernel
theorem dX1_cellsOf_8 : decode cX1_cellsOf 8 = .ok (.getfield 63, 3) := by decide +kernel
theorem dX1_cellsOf_11 : decode cX1_cellsOf 11 = .ok (.if_icmp .ge 28, 3) := by decide +kernel
theorem dX1_cellsOf_14 : decode cX1_cellsOf 14 = .ok (.aload_n 0, 1) := by decide +kernel
theorem dX1_cellsOf_15 : decode cX1_cellsOf 15 = .ok (.getfield 9, 3) := by decide +kernel
theorem dX1_cellsOf_18 : decode cX1_cellsOf 18 = .ok (.aload_n 2, 1) := by decide +kernel
theorem dX1_cellsOf_19 : decode cX1_cellsOf 19 = .ok (.getfield 68, 3) := by decide +kernel
theorem dX1_cellsOf_22 : decode cX1_cellsOf 22 = .ok (.iload 4, 2) := by decide +kernel
theorem dX1_cellsOf_24 : decode cX1_cellsOf 24 = .ok (.iaload, 1) := by decide +kernel
theorem dX1_cellsOf_25 : decode cX1_cellsOf 25 = .ok (.iaload, 1) := by decide +kernel
theorem dX1_cellsOf_26 : decode cX1_cellsOf 26 = .ok (.iload_n 1, 1) := by decide +kernel
theorem dX1_cellsOf_27 : decode cX1_cellsOf 27 = .ok (.if_icmp .ne 6, 3) := by decide +kernel
theorem dX1_cellsOf_30 : decode cX1_cellsOf 30 = .ok (.iinc 3 1, 3) := by decide +kernel
theorem dX1_cellsOf_33 : decode cX1_cellsOf 33 = .ok (.iinc 4 1, 3) := by decide +kernel
theorem dX1_cellsOf_36 : decode cX1_cellsOf 36 = .ok (.goto (-31), 3) := by decide +kernel
theorem dX1_cellsOf_39 : decode cX1_cellsOf 39 = .ok (.iload_n 3, 1) := by decide +kernel
theorem dX1_cellsOf_40 : decode cX1_cellsOf 40 = .ok (.ireturn, 1) := by decide +kernel
theorem dX1_missingIn_0 : decode cX1_missingIn 0 = .ok (.iconst 0, 1) := by decide +kernel
theorem dX1_missingIn_1 : decode cX1_missingIn 1 = .ok (.istore_n 2, 1) := by decide +kernel
theorem dX1_missingIn_2 : decode cX1_missingIn 2 = .ok (.iconst 0, 1) := by decide +kernel
theorem dX1_missingIn_3 : decode cX1_missingIn 3 = .ok (.istore_n 3, 1) := by decide +kernel
theorem dX1_missingIn_4 : decode cX1_missingIn 4 = .ok (.iload_n 3, 1) := by decide +kernel
theorem dX1_missingIn_5 : decode cX1_missingIn 5 = .ok (.iconst 3, 1) := by decide +kernel
theorem dX1_missingIn_6 : decode cX1_missingIn 6 = .ok (.if_icmp .ge 25, 3) := by decide +kernel
theorem dX1_missingIn_9 : decode cX1_missingIn 9 = .ok (.iload_n 2, 1) := by decide +kernel
theorem dX1_missingIn_10 : decode cX1_missingIn 10 = .ok (.bipush 6, 2) := by decide +kernel
theorem dX1_missingIn_12 : decode cX1_missingIn 12 = .ok (.aload_n 0, 1) := by decide +kernel
theorem dX1_missingIn_13 : decode cX1_missingIn 13 = .ok (.getfield 15, 3) := by decide +kernel
theorem dX1_missingIn_16 : decode cX1_missingIn 16 = .ok (.iload_n 1, 1) := by decide +kernel
theorem dX1_missingIn_17 : decode cX1_missingIn 17 = .ok (.iconst 3, 1) := by decide +kernel
theorem dX1_missingIn_18 : decode cX1_missingIn 18 = .ok (.imul, 1) := by decide +kernel
theorem dX1_missingIn_19 : decode cX1_missingIn 19 = .ok (.iload_n 3, 1) := by decide +kernel
theorem dX1_missingIn_20 : decode cX1_missingIn 20 = .ok (.iadd, 1) := by decide +kernel
theorem dX1_missingIn_21 : decode cX1_missingIn 21 = .ok (.iaload, 1) := by decide +kernel
theorem dX1_missingIn_22 : decode cX1_missingIn 22 = .ok (.isub, 1) := by decide +kernel
theorem dX1_missingIn_23 : decode cX1_missingIn 23 = .ok (.iadd, 1) := by decide +kernel
theorem dX1_missingIn_24 : decode cX1_missingIn 24 = .ok (.istore_n 2, 1) := by decide +kernel
theorem dX1_missingIn_25 : decode cX1_missingIn 25 = .ok (.iinc 3 1, 3) := by decide +kernel
theorem dX1_missingIn_28 : decode cX1_missingIn 28 = .ok (.goto (-24), 3) := by decide +kernel
theorem dX1_missingIn_31 : decode cX1_missingIn 31 = .ok (.iload_n 2, 1) := by decide +kernel
theorem dX1_missingIn_32 : decode cX1_missingIn 32 = .ok (.ireturn, 1) := by decide +kernel
theorem dX1_putDown_0 : decode cX1_putDown 0 = .ok (.aload_n 0, 1) := by decide +kernel
theorem dX1_putDown_1 : decode cX1_putDown 1 = .ok (.aload_n 2, 1) := by decide +kernel
theorem dX1_putDown_2 : decode cX1_putDown 2 = .ok (.bipush (-4), 2) := by decide +kernel
theorem dX1_putDown_4 : decode cX1_putDown 4 = .ok (.iload_n 1, 1) := by decide +kernel
theorem dX1_putDown_5 : decode cX1_putDown 5 = .ok (.invokevirtual 71, 3) := by decide +kernel
theorem dX1_putDown_8 : decode cX1_putDown 8 = .ok (.iconst 0, 1) := by decide +kernel
theorem dX1_putDown_9 : decode cX1_putDown 9 = .ok (.istore 5, 2) := by decide +kernel
theorem dX1_putDown_11 : decode cX1_putDown 11 = .ok (.iload 5, 2) := by decide +kernel
theorem dX1_putDown_13 : decode cX1_putDown 13 = .ok (.iconst 3, 1) := by decide +kernel
theorem dX1_putDown_14 : decode cX1_putDown 14 = .ok (.if_icmp .ge 50, 3) := by decide +kernel
theorem dX1_putDown_17 : decode cX1_putDown 17 = .ok (.aload_n 0, 1) := by decide +kernel
theorem dX1_putDown_18 : decode cX1_putDown 18 = .ok (.getfield 15, 3) := by decide +kernel
theorem dX1_putDown_21 : decode cX1_putDown 21 = .ok (.iload_n 3, 1) := by decide +kernel
theorem dX1_putDown_22 : decode cX1_putDown 22 = .ok (.iconst 3, 1) := by decide +kernel
theorem dX1_putDown_23 : decode cX1_putDown 23 = .ok (.imul, 1) := by decide +kernel
theorem dX1_putDown_24 : decode cX1_putDown 24 = .ok (.iload 5, 2) := by decide +kernel
theorem dX1_putDown_26 : decode cX1_putDown 26 = .ok (.iadd, 1) := by decide +kernel
theorem dX1_putDown_27 : decode cX1_putDown 27 = .ok (.dup2, 1) := by decide +kernel
theorem dX1_putDown_28 : decode cX1_putDown 28 = .ok (.iaload, 1) := by decide +kernel
theorem dX1_putDown_29 : decode cX1_putDown 29 = .ok (.aload 4, 2) := by decide +kernel
theorem dX1_putDown_31 : decode cX1_putDown 31 = .ok (.getfield 75, 3) := by decide +kernel
theorem dX1_putDown_34 : decode cX1_putDown 34 = .ok (.iload 5, 2) := by decide +kernel
theorem dX1_putDown_36 : decode cX1_putDown 36 = .ok (.iaload, 1) := by decide +kernel
theorem dX1_putDown_37 : decode cX1_putDown 37 = .ok (.isub, 1) := by decide +kernel
theorem dX1_putDown_38 : decode cX1_putDown 38 = .ok (.iastore, 1) := by decide +kernel
theorem dX1_putDown_39 : decode cX1_putDown 39 = .ok (.aload_n 0, 1) := by decide +kernel
theorem dX1_putDown_40 : decode cX1_putDown 40 = .ok (.getfield 27, 3) := by decide +kernel
theorem dX1_putDown_43 : decode cX1_putDown 43 = .ok (.iload_n 1, 1) := by decide +kernel
theorem dX1_putDown_44 : decode cX1_putDown 44 = .ok (.iconst 3, 1) := by decide +kernel
theorem dX1_putDown_45 : decode cX1_putDown 45 = .ok (.imul, 1) := by decide +kernel
theorem dX1_putDown_46 : decode cX1_putDown 46 = .ok (.iload 5, 2) := by decide +kernel
theorem dX1_putDown_48 : decode cX1_putDown 48 = .ok (.iadd, 1) := by decide +kernel
theorem dX1_putDown_49 : decode cX1_putDown 49 = .ok (.aload 4, 2) := by decide +kernel
theorem dX1_putDown_51 : decode cX1_putDown 51 = .ok (.getfield 80, 3) := by decide +kernel
theorem dX1_putDown_54 : decode cX1_putDown 54 = .ok (.iload 5, 2) := by decide +kernel
theorem dX1_putDown_56 : decode cX1_putDown 56 = .ok (.iaload, 1) := by decide +kernel
theorem dX1_putDown_57 : decode cX1_putDown 57 = .ok (.iastore, 1) := by decide +kernel
theorem dX1_putDown_58 : decode cX1_putDown 58 = .ok (.iinc 5 1, 3) := by decide +kernel
theorem dX1_putDown_61 : decode cX1_putDown 61 = .ok (.goto (-50), 3) := by decide +kernel
theorem dX1_putDown_64 : decode cX1_putDown 64 = .ok (.aload_n 0, 1) := by decide +kernel
theorem dX1_putDown_65 : decode cX1_putDown 65 = .ok (.getfield 18, 3) := by decide +kernel
theorem dX1_putDown_68 : decode cX1_putDown 68 = .ok (.iload_n 1, 1) := by decide +kernel
theorem dX1_putDown_69 : decode cX1_putDown 69 = .ok (.iload_n 3, 1) := by decide +kernel
theorem dX1_putDown_70 : decode cX1_putDown 70 = .ok (.iastore, 1) := by decide +kernel
theorem dX1_putDown_71 : decode cX1_putDown 71 = .ok (.aload_n 0, 1) := by decide +kernel
theorem dX1_putDown_72 : decode cX1_putDown 72 = .ok (.getfield 21, 3) := by decide +kernel
theorem dX1_putDown_75 : decode cX1_putDown 75 = .ok (.iload_n 1, 1) := by decide +kernel
theorem dX1_putDown_76 : decode cX1_putDown 76 = .ok (.aload 4, 2) := by decide +kernel
theorem dX1_putDown_78 : decode cX1_putDown 78 = .ok (.getfield 81, 3) := by decide +kernel
theorem dX1_putDown_81 : decode cX1_putDown 81 = .ok (.iastore, 1) := by decide +kernel
theorem dX1_putDown_82 : decode cX1_putDown 82 = .ok (.aload_n 0, 1) := by decide +kernel
theorem dX1_putDown_83 : decode cX1_putDown 83 = .ok (.getfield 24, 3) := by decide +kernel
theorem dX1_putDown_86 : decode cX1_putDown 86 = .ok (.iload_n 1, 1) := by decide +kernel
theorem dX1_putDown_87 : decode cX1_putDown 87 = .ok (.aload 4, 2) := by decide +kernel
theorem dX1_putDown_89 : decode cX1_putDown 89 = .ok (.getfield 84, 3) := by decide +kernel
theorem dX1_putDown_92 : decode cX1_putDown 92 = .ok (.iastore, 1) := by decide +kernel
theorem dX1_putDown_93 : decode cX1_putDown 93 = .ok (.aload_n 0, 1) := by decide +kernel
theorem dX1_putDown_94 : decode cX1_putDown 94 = .ok (.getfield 30, 3) := by decide +kernel
theorem dX1_putDown_97 : decode cX1_putDown 97 = .ok (.iload_n 1, 1) := by decide +kernel
theorem dX1_putDown_98 : decode cX1_putDown 98 = .ok (.aload 4, 2) := by decide +kernel
theorem dX1_putDown_100 : decode cX1_putDown 100 = .ok (.getfield 86, 3) := by decide +kernel
theorem dX1_putDown_103 : decode cX1_putDown 103 = .ok (.iastore, 1) := by decide +kernel
theorem dX1_putDown_104 : decode cX1_putDown 104 = .ok (.aload_n 0, 1) := by decide +kernel
theorem dX1_putDown_105 : decode cX1_putDown 105 = .ok (.dup, 1) := by decide +kernel
theorem dX1_putDown_106 : decode cX1_putDown 106 = .ok (.getfield 57, 3) := by decide +kernel
theorem dX1_putDown_109 : decode cX1_putDown 109 = .ok (.aload 4, 2) := by decide +kernel
theorem dX1_putDown_111 : decode cX1_putDown 111 = .ok (.getfield 84, 3) := by decide +kernel
theorem dX1_putDown_114 : decode cX1_putDown 114 = .ok (.iadd, 1) := by decide +kernel
theorem dX1_putDown_115 : decode cX1_putDown 115 = .ok (.putfield 57, 3) := by decide +kernel
theorem dX1_putDown_118 : decode cX1_putDown 118 = .ok (.aload_n 0, 1) := by decide +kernel
theorem dX1_putDown_119 : decode cX1_putDown 119 = .ok (.dup, 1) := by decide +kernel
theorem dX1_putDown_120 : decode cX1_putDown 120 = .ok (.getfield 60, 3) := by decide +kernel
theorem dX1_putDown_123 : decode cX1_putDown 123 = .ok (.aload 4, 2) := by decide +kernel
theorem dX1_putDown_125 : decode cX1_putDown 125 = .ok (.getfield 88, 3) := by decide +kernel
theorem dX1_putDown_128 : decode cX1_putDown 128 = .ok (.iadd, 1) := by decide +kernel
theorem dX1_putDown_129 : decode cX1_putDown 129 = .ok (.putfield 60, 3) := by decide +kernel
theorem dX1_putDown_132 : decode cX1_putDown 132 = .ok (.return_, 1) := by decide +kernel
theorem dX1_pickUp_0 : decode cX1_pickUp 0 = .ok (.iconst 0, 1) := by decide +kernel
theorem dX1_pickUp_1 : decode cX1_pickUp 1 = .ok (.istore 4, 2) := by decide +kernel
theorem dX1_pickUp_3 : decode cX1_pickUp 3 = .ok (.iconst 0, 1) := by decide +kernel
theorem dX1_pickUp_4 : decode cX1_pickUp 4 = .ok (.istore 5, 2) := by decide +kernel
theorem dX1_pickUp_6 : decode cX1_pickUp 6 = .ok (.iload 5, 2) := by decide +kernel
theorem dX1_pickUp_8 : decode cX1_pickUp 8 = .ok (.iconst 3, 1) := by decide +kernel
theorem dX1_pickUp_9 : decode cX1_pickUp 9 = .ok (.if_icmp .ge 90, 3) := by decide +kernel
theorem dX1_pickUp_12 : decode cX1_pickUp 12 = .ok (.aload_n 0, 1) := by decide +kernel
theorem dX1_pickUp_13 : decode cX1_pickUp 13 = .ok (.getfield 27, 3) := by decide +kernel
theorem dX1_pickUp_16 : decode cX1_pickUp 16 = .ok (.iload_n 1, 1) := by decide +kernel
theorem dX1_pickUp_17 : decode cX1_pickUp 17 = .ok (.iconst 3, 1) := by decide +kernel
theorem dX1_pickUp_18 : decode cX1_pickUp 18 = .ok (.imul, 1) := by decide +kernel
theorem dX1_pickUp_19 : decode cX1_pickUp 19 = .ok (.iload 5, 2) := by decide +kernel
theorem dX1_pickUp_21 : decode cX1_pickUp 21 = .ok (.iadd, 1) := by decide +kernel
theorem dX1_pickUp_22 : decode cX1_pickUp 22 = .ok (.iaload, 1) := by decide +kernel
theorem dX1_pickUp_23 : decode cX1_pickUp 23 = .ok (.istore 6, 2) := by decide +kernel
theorem dX1_pickUp_25 : decode cX1_pickUp 25 = .ok (.aload_n 0, 1) := by decide +kernel
theorem dX1_pickUp_26 : decode cX1_pickUp 26 = .ok (.getfield 18, 3) := by decide +kernel
theorem dX1_pickUp_29 : decode cX1_pickUp 29 = .ok (.iload_n 1, 1) := by decide +kernel
theorem dX1_pickUp_30 : decode cX1_pickUp 30 = .ok (.iaload, 1) := by decide +kernel
theorem dX1_pickUp_31 : decode cX1_pickUp 31 = .ok (.iconst 3, 1) := by decide +kernel
theorem dX1_pickUp_32 : decode cX1_pickUp 32 = .ok (.imul, 1) := by decide +kernel
theorem dX1_pickUp_33 : decode cX1_pickUp 33 = .ok (.iload 5, 2) := by decide +kernel
theorem dX1_pickUp_35 : decode cX1_pickUp 35 = .ok (.iadd, 1) := by decide +kernel
theorem dX1_pickUp_36 : decode cX1_pickUp 36 = .ok (.istore 7, 2) := by decide +kernel
theorem dX1_pickUp_38 : decode cX1_pickUp 38 = .ok (.iload 6, 2) := by decide +kernel
theorem dX1_pickUp_40 : decode cX1_pickUp 40 = .ok (.bipush 6, 2) := by decide +kernel
theorem dX1_pickUp_42 : decode cX1_pickUp 42 = .ok (.aload_n 0, 1) := by decide +kernel
theorem dX1_pickUp_43 : decode cX1_pickUp 43 = .ok (.getfield 15, 3) := by decide +kernel
theorem dX1_pickUp_46 : decode cX1_pickUp 46 = .ok (.iload 7, 2) := by decide +kernel
theorem dX1_pickUp_48 : decode cX1_pickUp 48 = .ok (.iaload, 1) := by decide +kernel
theorem dX1_pickUp_49 : decode cX1_pickUp 49 = .ok (.isub, 1) := by decide +kernel
theorem dX1_pickUp_50 : decode cX1_pickUp 50 = .ok (.invokestatic 91, 3) := by decide +kernel
theorem dX1_pickUp_53 : decode cX1_pickUp 53 = .ok (.istore 8, 2) := by decide +kernel
theorem dX1_pickUp_55 : decode cX1_pickUp 55 = .ok (.aload_n 0, 1) := by decide +kernel
theorem dX1_pickUp_56 : decode cX1_pickUp 56 = .ok (.getfield 15, 3) := by decide +kernel
theorem dX1_pickUp_59 : decode cX1_pickUp 59 = .ok (.iload 7, 2) := by decide +kernel
theorem dX1_pickUp_61 : decode cX1_pickUp 61 = .ok (.dup2, 1) := by decide +kernel
theorem dX1_pickUp_62 : decode cX1_pickUp 62 = .ok (.iaload, 1) := by decide +kernel
theorem dX1_pickUp_63 : decode cX1_pickUp 63 = .ok (.iload 8, 2) := by decide +kernel
theorem dX1_pickUp_65 : decode cX1_pickUp 65 = .ok (.iadd, 1) := by decide +kernel
theorem dX1_pickUp_66 : decode cX1_pickUp 66 = .ok (.iastore, 1) := by decide +kernel
theorem dX1_pickUp_67 : decode cX1_pickUp 67 = .ok (.iload 4, 2) := by decide +kernel
theorem dX1_pickUp_69 : decode cX1_pickUp 69 = .ok (.iload 8, 2) := by decide +kernel
theorem dX1_pickUp_71 : decode cX1_pickUp 71 = .ok (.iadd, 1) := by decide +kernel
theorem dX1_pickUp_72 : decode cX1_pickUp 72 = .ok (.istore 4, 2) := by decide +kernel
theorem dX1_pickUp_74 : decode cX1_pickUp 74 = .ok (.aload_n 0, 1) := by decide +kernel
theorem dX1_pickUp_75 : decode cX1_pickUp 75 = .ok (.dup, 1) := by decide +kernel
theorem dX1_pickUp_76 : decode cX1_pickUp 76 = .ok (.getfield 60, 3) := by decide +kernel
theorem dX1_pickUp_79 : decode cX1_pickUp 79 = .ok (.iload 6, 2) := by decide +kernel
theorem dX1_pickUp_81 : decode cX1_pickUp 81 = .ok (.iload 8, 2) := by decide +kernel
theorem dX1_pickUp_83 : decode cX1_pickUp 83 = .ok (.isub, 1) := by decide +kernel
theorem dX1_pickUp_84 : decode cX1_pickUp 84 = .ok (.aload_n 3, 1) := by decide +kernel
theorem dX1_pickUp_85 : decode cX1_pickUp 85 = .ok (.iload 5, 2) := by decide +kernel
theorem dX1_pickUp_87 : decode cX1_pickUp 87 = .ok (.iaload, 1) := by decide +kernel
theorem dX1_pickUp_88 : decode cX1_pickUp 88 = .ok (.imul, 1) := by decide +kernel
theorem dX1_pickUp_89 : decode cX1_pickUp 89 = .ok (.iadd, 1) := by decide +kernel
theorem dX1_pickUp_90 : decode cX1_pickUp 90 = .ok (.putfield 60, 3) := by decide +kernel
theorem dX1_pickUp_93 : decode cX1_pickUp 93 = .ok (.iinc 5 1, 3) := by decide +kernel
theorem dX1_pickUp_96 : decode cX1_pickUp 96 = .ok (.goto (-90), 3) := by decide +kernel
theorem dX1_pickUp_99 : decode cX1_pickUp 99 = .ok (.aload_n 0, 1) := by decide +kernel
theorem dX1_pickUp_100 : decode cX1_pickUp 100 = .ok (.dup, 1) := by decide +kernel
theorem dX1_pickUp_101 : decode cX1_pickUp 101 = .ok (.getfield 60, 3) := by decide +kernel
theorem dX1_pickUp_104 : decode cX1_pickUp 104 = .ok (.aload_n 0, 1) := by decide +kernel
theorem dX1_pickUp_105 : decode cX1_pickUp 105 = .ok (.getfield 30, 3) := by decide +kernel
theorem dX1_pickUp_108 : decode cX1_pickUp 108 = .ok (.iload_n 1, 1) := by decide +kernel
theorem dX1_pickUp_109 : decode cX1_pickUp 109 = .ok (.iaload, 1) := by decide +kernel
theorem dX1_pickUp_110 : decode cX1_pickUp 110 = .ok (.iadd, 1) := by decide +kernel
theorem dX1_pickUp_111 : decode cX1_pickUp 111 = .ok (.putfield 60, 3) := by decide +kernel
theorem dX1_pickUp_114 : decode cX1_pickUp 114 = .ok (.aload_n 0, 1) := by decide +kernel
theorem dX1_pickUp_115 : decode cX1_pickUp 115 = .ok (.aload_n 2, 1) := by decide +kernel
theorem dX1_pickUp_116 : decode cX1_pickUp 116 = .ok (.iload_n 1, 1) := by decide +kernel
theorem dX1_pickUp_117 : decode cX1_pickUp 117 = .ok (.bipush (-4), 2) := by decide +kernel
theorem dX1_pickUp_119 : decode cX1_pickUp 119 = .ok (.invokevirtual 71, 3) := by decide +kernel
theorem dX1_pickUp_122 : decode cX1_pickUp 122 = .ok (.aload_n 0, 1) := by decide +kernel
theorem dX1_pickUp_123 : decode cX1_pickUp 123 = .ok (.iload_n 1, 1) := by decide +kernel
theorem dX1_pickUp_124 : decode cX1_pickUp 124 = .ok (.invokevirtual 48, 3) := by decide +kernel
theorem dX1_pickUp_127 : decode cX1_pickUp 127 = .ok (.iload 4, 2) := by decide +kernel
theorem dX1_pickUp_129 : decode cX1_pickUp 129 = .ok (.ireturn, 1) := by decide +kernel
theorem dX1_handOver_0 : decode cX1_handOver 0 = .ok (.iconst 0, 1) := by decide +kernel
theorem dX1_handOver_1 : decode cX1_handOver 1 = .ok (.istore 4, 2) := by decide +kernel
theorem dX1_handOver_3 : decode cX1_handOver 3 = .ok (.iload 4, 2) := by decide +kernel
theorem dX1_handOver_5 : decode cX1_handOver 5 = .ok (.aload_n 1, 1) := by decide +kernel
theorem dX1_handOver_6 : decode cX1_handOver 6 = .ok (.getfield 63, 3) := by decide +kernel
theorem dX1_handOver_9 : decode cX1_handOver 9 = .ok (.if_icmp .ge 38, 3) := by decide +kernel
theorem dX1_handOver_12 : decode cX1_handOver 12 = .ok (.aload_n 0, 1) := by decide +kernel
theorem dX1_handOver_13 : decode cX1_handOver 13 = .ok (.getfield 9, 3) := by decide +kernel
theorem dX1_handOver_16 : decode cX1_handOver 16 = .ok (.aload_n 1, 1) := by decide +kernel
theorem dX1_handOver_17 : decode cX1_handOver 17 = .ok (.getfield 68, 3) := by decide +kernel
theorem dX1_handOver_20 : decode cX1_handOver 20 = .ok (.iload 4, 2) := by decide +kernel
theorem dX1_handOver_22 : decode cX1_handOver 22 = .ok (.iaload, 1) := by decide +kernel
theorem dX1_handOver_23 : decode cX1_handOver 23 = .ok (.iaload, 1) := by decide +kernel
theorem dX1_handOver_24 : decode cX1_handOver 24 = .ok (.iload_n 2, 1) := by decide +kernel
theorem dX1_handOver_25 : decode cX1_handOver 25 = .ok (.if_icmp .ne 16, 3) := by decide +kernel
theorem dX1_handOver_28 : decode cX1_handOver 28 = .ok (.aload_n 0, 1) := by decide +kernel
theorem dX1_handOver_29 : decode cX1_handOver 29 = .ok (.getfield 9, 3) := by decide +kernel
theorem dX1_handOver_32 : decode cX1_handOver 32 = .ok (.aload_n 1, 1) := by decide +kernel
theorem dX1_handOver_33 : decode cX1_handOver 33 = .ok (.getfield 68, 3) := by decide +kernel
theorem dX1_handOver_36 : decode cX1_handOver 36 = .ok (.iload 4, 2) := by decide +kernel
theorem dX1_handOver_38 : decode cX1_handOver 38 = .ok (.iaload, 1) := by decide +kernel
theorem dX1_handOver_39 : decode cX1_handOver 39 = .ok (.iload_n 3, 1) := by decide +kernel
theorem dX1_handOver_40 : decode cX1_handOver 40 = .ok (.iastore, 1) := by decide +kernel
theorem dX1_handOver_41 : decode cX1_handOver 41 = .ok (.iinc 4 1, 3) := by decide +kernel
theorem dX1_handOver_44 : decode cX1_handOver 44 = .ok (.goto (-41), 3) := by decide +kernel
theorem dX1_handOver_47 : decode cX1_handOver 47 = .ok (.return_, 1) := by decide +kernel
theorem dX1_strip_0 : decode cX1_strip 0 = .ok (.aload_n 0, 1) := by decide +kernel
theorem dX1_strip_1 : decode cX1_strip 1 = .ok (.getfield 18, 3) := by decide +kernel
theorem dX1_strip_4 : decode cX1_strip 4 = .ok (.iload_n 1, 1) := by decide +kernel
theorem dX1_strip_5 : decode cX1_strip 5 = .ok (.bipush (-4), 2) := by decide +kernel
theorem dX1_strip_7 : decode cX1_strip 7 = .ok (.iastore, 1) := by decide +kernel
theorem dX1_strip_8 : decode cX1_strip 8 = .ok (.aload_n 0, 1) := by decide +kernel
theorem dX1_strip_9 : decode cX1_strip 9 = .ok (.getfield 21, 3) := by decide +kernel
theorem dX1_strip_12 : decode cX1_strip 12 = .ok (.iload_n 1, 1) := by decide +kernel
theorem dX1_strip_13 : decode cX1_strip 13 = .ok (.iconst 0, 1) := by decide +kernel
theorem dX1_strip_14 : decode cX1_strip 14 = .ok (.iastore, 1) := by decide +kernel
theorem dX1_strip_15 : decode cX1_strip 15 = .ok (.aload_n 0, 1) := by decide +kernel
theorem dX1_strip_16 : decode cX1_strip 16 = .ok (.getfield 24, 3) := by decide +kernel
theorem dX1_strip_19 : decode cX1_strip 19 = .ok (.iload_n 1, 1) := by decide +kernel
theorem dX1_strip_20 : decode cX1_strip 20 = .ok (.iconst 0, 1) := by decide +kernel
theorem dX1_strip_21 : decode cX1_strip 21 = .ok (.iastore, 1) := by decide +kernel
theorem dX1_strip_22 : decode cX1_strip 22 = .ok (.aload_n 0, 1) := by decide +kernel
theorem dX1_strip_23 : decode cX1_strip 23 = .ok (.getfield 30, 3) := by decide +kernel
theorem dX1_strip_26 : decode cX1_strip 26 = .ok (.iload_n 1, 1) := by decide +kernel
theorem dX1_strip_27 : decode cX1_strip 27 = .ok (.iconst 0, 1) := by decide +kernel
theorem dX1_strip_28 : decode cX1_strip 28 = .ok (.iastore, 1) := by decide +kernel
theorem dX1_strip_29 : decode cX1_strip 29 = .ok (.aload_n 0, 1) := by decide +kernel
theorem dX1_strip_30 : decode cX1_strip 30 = .ok (.getfield 27, 3) := by decide +kernel
theorem dX1_strip_33 : decode cX1_strip 33 = .ok (.iload_n 1, 1) := by decide +kernel
theorem dX1_strip_34 : decode cX1_strip 34 = .ok (.iconst 3, 1) := by decide +kernel
theorem dX1_strip_35 : decode cX1_strip 35 = .ok (.imul, 1) := by decide +kernel
theorem dX1_strip_36 : decode cX1_strip 36 = .ok (.iload_n 1, 1) := by decide +kernel
theorem dX1_strip_37 : decode cX1_strip 37 = .ok (.iconst 3, 1) := by decide +kernel
theorem dX1_strip_38 : decode cX1_strip 38 = .ok (.imul, 1) := by decide +kernel
theorem dX1_strip_39 : decode cX1_strip 39 = .ok (.iconst 3, 1) := by decide +kernel
theorem dX1_strip_40 : decode cX1_strip 40 = .ok (.iadd, 1) := by decide +kernel
theorem dX1_strip_41 : decode cX1_strip 41 = .ok (.iconst 0, 1) := by decide +kernel
theorem dX1_strip_42 : decode cX1_strip 42 = .ok (.invokestatic 97, 3) := by decide +kernel
theorem dX1_strip_45 : decode cX1_strip 45 = .ok (.return_, 1) := by decide +kernel
theorem dX2_init_0 : decode cX2_init 0 = .ok (.aload_n 0, 1) := by decide +kernel
theorem dX2_init_1 : decode cX2_init 1 = .ok (.invokespecial 3, 3) := by decide +kernel
theorem dX2_init_4 : decode cX2_init 4 = .ok (.aload_n 0, 1) := by decide +kernel
theorem dX2_init_5 : decode cX2_init 5 = .ok (.bipush 48, 2) := by decide +kernel
theorem dX2_init_7 : decode cX2_init 7 = .ok (.newarray .int, 2) := by decide +kernel
theorem dX2_init_9 : decode cX2_init 9 = .ok (.putfield 11, 3) := by decide +kernel
theorem dX2_init_12 : decode cX2_init 12 = .ok (.aload_n 0, 1) := by decide +kernel
theorem dX2_init_13 : decode cX2_init 13 = .ok (.bipush 16, 2) := by decide +kernel
theorem dX2_init_15 : decode cX2_init 15 = .ok (.newarray .int, 2) := by decide +kernel
theorem dX2_init_17 : decode cX2_init 17 = .ok (.putfield 15, 3) := by decide +kernel
theorem dX2_init_20 : decode cX2_init 20 = .ok (.return_, 1) := by decide +kernel
theorem dX2_list_0 : decode cX2_list 0 = .ok (.aload_n 0, 1) := by decide +kernel
theorem dX2_list_1 : decode cX2_list 1 = .ok (.iconst 0, 1) := by decide +kernel
theorem dX2_list_2 : decode cX2_list 2 = .ok (.putfield 18, 3) := by decide +kernel
theorem dX2_list_5 : decode cX2_list 5 = .ok (.aload_n 0, 1) := by decide +kernel
theorem dX2_list_6 : decode cX2_list 6 = .ok (.iconst 1, 1) := by decide +kernel
theorem dX2_list_7 : decode cX2_list 7 = .ok (.putfield 22, 3) := by decide +kernel
theorem dX2_list_10 : decode cX2_list 10 = .ok (.iconst 0, 1) := by decide +kernel
theorem dX2_list_11 : decode cX2_list 11 = .ok (.istore 5, 2) := by decide +kernel
theorem dX2_list_13 : decode cX2_list 13 = .ok (.iload 5, 2) := by decide +kernel
theorem dX2_list_15 : decode cX2_list 15 = .ok (.iconst 3, 1) := by decide +kernel
theorem dX2_list_16 : decode cX2_list 16 = .ok (.if_icmp .gt 147, 3) := by decide +kernel
theorem dX2_list_19 : decode cX2_list 19 = .ok (.iconst 0, 1) := by decide +kernel
theorem dX2_list_20 : decode cX2_list 20 = .ok (.istore 6, 2) := by decide +kernel
theorem dX2_list_22 : decode cX2_list 22 = .ok (.iload 6, 2) := by decide +kernel
theorem dX2_list_24 : decode cX2_list 24 = .ok (.bipush 6, 2) := by decide +kernel
theorem dX2_list_26 : decode cX2_list 26 = .ok (.if_icmp .gt 131, 3) := by decide +kernel
theorem dX2_list_29 : decode cX2_list 29 = .ok (.iload_n 2, 1) := by decide +kernel
theorem dX2_list_30 : decode cX2_list 30 = .ok (.ifCond .eq 15, 3) := by decide +kernel
theorem dX2_list_33 : decode cX2_list 33 = .ok (.iload 6, 2) := by decide +kernel
theorem dX2_list_35 : decode cX2_list 35 = .ok (.ifCond .ne 10, 3) := by decide +kernel
theorem dX2_list_38 : decode cX2_list 38 = .ok (.iload 5, 2) := by decide +kernel
theorem dX2_list_40 : decode cX2_list 40 = .ok (.iconst 1, 1) := by decide +kernel
theorem dX2_list_41 : decode cX2_list 41 = .ok (.iadd, 1) := by decide +kernel
theorem dX2_list_42 : decode cX2_list 42 = .ok (.goto 5, 3) := by decide +kernel
theorem dX2_list_45 : decode cX2_list 45 = .ok (.iload 5, 2) := by decide +kernel
theorem dX2_list_47 : decode cX2_list 47 = .ok (.istore 7, 2) := by decide +kernel
theorem dX2_list_49 : decode cX2_list 49 = .ok (.iconst 0, 1) := by decide +kernel
theorem dX2_list_50 : decode cX2_list 50 = .ok (.istore 8, 2) := by decide +kernel
theorem dX2_list_52 : decode cX2_list 52 = .ok (.iload 8, 2) := by decide +kernel
theorem dX2_list_54 : decode cX2_list 54 = .ok (.bipush 6, 2) := by decide +kernel
theorem dX2_list_56 : decode cX2_list 56 = .ok (.if_icmp .gt 95, 3) := by decide +kernel
theorem dX2_list_59 : decode cX2_list 59 = .ok (.iload 6, 2) := by decide +kernel
theorem dX2_list_61 : decode cX2_list 61 = .ok (.aload_n 3, 1) := by decide +kernel
theorem dX2_list_62 : decode cX2_list 62 = .ok (.iconst 0, 1) := by decide +kernel
theorem dX2_list_63 : decode cX2_list 63 = .ok (.iaload, 1) := by decide +kernel
theorem dX2_list_64 : decode cX2_list 64 = .ok (.imul, 1) := by decide +kernel
theorem dX2_list_65 : decode cX2_list 65 = .ok (.iload 8, 2) := by decide +kernel
theorem dX2_list_67 : decode cX2_list 67 = .ok (.aload_n 3, 1) := by decide +kernel
theorem dX2_list_68 : decode cX2_list 68 = .ok (.iconst 1, 1) := by decide +kernel
theorem dX2_list_69 : decode cX2_list 69 = .ok (.iaload, 1) := by decide +kernel
theorem dX2_list_70 : decode cX2_list 70 = .ok (.imul, 1) := by decide +kernel
theorem dX2_list_71 : decode cX2_list 71 = .ok (.iadd, 1) := by decide +kernel
theorem dX2_list_72 : decode cX2_list 72 = .ok (.istore 9, 2) := by decide +kernel
theorem dX2_list_74 : decode cX2_list 74 = .ok (.iload_n 1, 1) := by decide +kernel
theorem dX2_list_75 : decode cX2_list 75 = .ok (.iload 9, 2) := by decide +kernel
theorem dX2_list_77 : decode cX2_list 77 = .ok (.isub, 1) := by decide +kernel
theorem dX2_list_78 : decode cX2_list 78 = .ok (.iload 6, 2) := by decide +kernel
theorem dX2_list_80 : decode cX2_list 80 = .ok (.iload 8, 2) := by decide +kernel
theorem dX2_list_82 : decode cX2_list 82 = .ok (.iadd, 1) := by decide +kernel
theorem dX2_list_83 : decode cX2_list 83 = .ok (.iload 5, 2) := by decide +kernel
theorem dX2_list_85 : decode cX2_list 85 = .ok (.iadd, 1) := by decide +kernel
theorem dX2_list_86 : decode cX2_list 86 = .ok (.iconst 1, 1) := by decide +kernel
theorem dX2_list_87 : decode cX2_list 87 = .ok (.isub, 1) := by decide +kernel
theorem dX2_list_88 : decode cX2_list 88 = .ok (.iload 4, 2) := by decide +kernel
theorem dX2_list_90 : decode cX2_list 90 = .ok (.imul, 1) := by decide +kernel
theorem dX2_list_91 : decode cX2_list 91 = .ok (.isub, 1) := by decide +kernel
theorem dX2_list_92 : decode cX2_list 92 = .ok (.istore 10, 2) := by decide +kernel
theorem dX2_list_94 : decode cX2_list 94 = .ok (.iconst 0, 1) := by decide +kernel
theorem dX2_list_95 : decode cX2_list 95 = .ok (.istore 11, 2) := by decide +kernel
theorem dX2_list_97 : decode cX2_list 97 = .ok (.iload 11, 2) := by decide +kernel
theorem dX2_list_99 : decode cX2_list 99 = .ok (.bipush 6, 2) := by decide +kernel
theorem dX2_list_101 : decode cX2_list 101 = .ok (.if_icmp .gt 44, 3) := by decide +kernel
theorem dX2_list_104 : decode cX2_list 104 = .ok (.iload 10, 2) := by decide +kernel
theorem dX2_list_106 : decode cX2_list 106 = .ok (.iload 5, 2) := by decide +kernel
theorem dX2_list_108 : decode cX2_list 108 = .ok (.if_icmp .lt 37, 3) := by decide +kernel
theorem dX2_list_111 : decode cX2_list 111 = .ok (.aload_n 0, 1) := by decide +kernel
theorem dX2_list_112 : decode cX2_list 112 = .ok (.iload 6, 2) := by decide +kernel
theorem dX2_list_114 : decode cX2_list 114 = .ok (.iload 8, 2) := by decide +kernel
theorem dX2_list_116 : decode cX2_list 116 = .ok (.iload 11, 2) := by decide +kernel
theorem dX2_list_118 : decode cX2_list 118 = .ok (.iload 5, 2) := by decide +kernel
theorem dX2_list_120 : decode cX2_list 120 = .ok (.iload 10, 2) := by decide +kernel
theorem dX2_list_122 : decode cX2_list 122 = .ok (.iload 7, 2) := by decide +kernel
theorem dX2_list_124 : decode cX2_list 124 = .ok (.aload_n 3, 1) := by decide +kernel
theorem dX2_list_125 : decode cX2_list 125 = .ok (.invokevirtual 26, 3) := by decide +kernel
theorem dX2_list_128 : decode cX2_list 128 = .ok (.iload 10, 2) := by decide +kernel
theorem dX2_list_130 : decode cX2_list 130 = .ok (.aload_n 3, 1) := by decide +kernel
theorem dX2_list_131 : decode cX2_list 131 = .ok (.iconst 2, 1) := by decide +kernel
theorem dX2_list_132 : decode cX2_list 132 = .ok (.iaload, 1) := by decide +kernel
theorem dX2_list_133 : decode cX2_list 133 = .ok (.iload 4, 2) := by decide +kernel
theorem dX2_list_135 : decode cX2_list 135 = .ok (.iadd, 1) := by decide +kernel
theorem dX2_list_136 : decode cX2_list 136 = .ok (.isub, 1) := by decide +kernel
theorem dX2_list_137 : decode cX2_list 137 = .ok (.istore 10, 2) := by decide +kernel
theorem dX2_list_139 : decode cX2_list 139 = .ok (.iinc 11 1, 3) := by decide +kernel
theorem dX2_list_142 : decode cX2_list 142 = .ok (.goto (-45), 3) := by decide +kernel
theorem dX2_list_145 : decode cX2_list 145 = .ok (.iinc 8 1, 3) := by decide +kernel
theorem dX2_list_148 : decode cX2_list 148 = .ok (.goto (-96), 3) := by decide +kernel
theorem dX2_list_151 : decode cX2_list 151 = .ok (.iinc 6 1, 3) := by decide +kernel
theorem dX2_list_154 : decode cX2_list 154 = .ok (.goto (-132), 3) := by decide +kernel
theorem dX2_list_157 : decode cX2_list 157 = .ok (.iinc 5 1, 3) := by decide +kernel
theorem dX2_list_160 : decode cX2_list 160 = .ok (.goto (-147), 3) := by decide +kernel
theorem dX2_list_163 : decode cX2_list 163 = .ok (.return_, 1) := by decide +kernel
theorem dX2_listCut_0 : decode cX2_listCut 0 = .ok (.aload 7, 2) := by decide +kernel
theorem dX2_listCut_2 : decode cX2_listCut 2 = .ok (.iconst 0, 1) := by decide +kernel
theorem dX2_listCut_3 : decode cX2_listCut 3 = .ok (.iaload, 1) := by decide +kernel
theorem dX2_listCut_4 : decode cX2_listCut 4 = .ok (.iconst 1, 1) := by decide +kernel
theorem dX2_listCut_5 : decode cX2_listCut 5 = .ok (.if_icmp .le 8, 3) := by decide +kernel
theorem dX2_listCut_8 : decode cX2_listCut 8 = .ok (.iload 4, 2) := by decide +kernel
theorem dX2_listCut_10 : decode cX2_listCut 10 = .ok (.goto 4, 3) := by decide +kernel
theorem dX2_listCut_13 : decode cX2_listCut 13 = .ok (.iconst 0, 1) := by decide +kernel
theorem dX2_listCut_14 : decode cX2_listCut 14 = .ok (.istore 8, 2) := by decide +kernel
theorem dX2_listCut_16 : decode cX2_listCut 16 = .ok (.iconst 0, 1) := by decide +kernel
theorem dX2_listCut_17 : decode cX2_listCut 17 = .ok (.istore 9, 2) := by decide +kernel
theorem dX2_listCut_19 : decode cX2_listCut 19 = .ok (.iload 9, 2) := by decide +kernel
theorem dX2_listCut_21 : decode cX2_listCut 21 = .ok (.iload 8, 2) := by decide +kernel
theorem dX2_listCut_23 : decode cX2_listCut 23 = .ok (.if_icmp .gt 94, 3) := by decide +kernel
theorem dX2_listCut_26 : decode cX2_listCut 26 = .ok (.iconst 0, 1) := by decide +kernel
theorem dX2_listCut_27 : decode cX2_listCut 27 = .ok (.istore 10, 2) := by decide +kernel
theorem dX2_listCut_29 : decode cX2_listCut 29 = .ok (.iload 9, 2) := by decide +kernel
theorem dX2_listCut_31 : decode cX2_listCut 31 = .ok (.iload 10, 2) := by decide +kernel
theorem dX2_listCut_33 : decode cX2_listCut 33 = .ok (.iadd, 1) := by decide +kernel
theorem dX2_listCut_34 : decode cX2_listCut 34 = .ok (.iload 4, 2) := by decide +kernel
theorem dX2_listCut_36 : decode cX2_listCut 36 = .ok (.if_icmp .gt 75, 3) := by decide +kernel
theorem dX2_listCut_39 : decode cX2_listCut 39 = .ok (.iload 4, 2) := by decide +kernel
theorem dX2_listCut_41 : decode cX2_listCut 41 = .ok (.iload 9, 2) := by decide +kernel
theorem dX2_listCut_43 : decode cX2_listCut 43 = .ok (.isub, 1) := by decide +kernel
theorem dX2_listCut_44 : decode cX2_listCut 44 = .ok (.iload 10, 2) := by decide +kernel
theorem dX2_listCut_46 : decode cX2_listCut 46 = .ok (.isub, 1) := by decide +kernel
theorem dX2_listCut_47 : decode cX2_listCut 47 = .ok (.istore 11, 2) := by decide +kernel
theorem dX2_listCut_49 : decode cX2_listCut 49 = .ok (.iload 9, 2) := by decide +kernel
theorem dX2_listCut_51 : decode cX2_listCut 51 = .ok (.aload 7, 2) := by decide +kernel
theorem dX2_listCut_53 : decode cX2_listCut 53 = .ok (.iconst 0, 1) := by decide +kernel
theorem dX2_listCut_54 : decode cX2_listCut 54 = .ok (.iaload, 1) := by decide +kernel
theorem dX2_listCut_55 : decode cX2_listCut 55 = .ok (.iconst 1, 1) := by decide +kernel
theorem dX2_listCut_56 : decode cX2_listCut 56 = .ok (.isub, 1) := by decide +kernel
theorem dX2_listCut_57 : decode cX2_listCut 57 = .ok (.imul, 1) := by decide +kernel
theorem dX2_listCut_58 : decode cX2_listCut 58 = .ok (.iload 10, 2) := by decide +kernel
theorem dX2_listCut_60 : decode cX2_listCut 60 = .ok (.aload 7, 2) := by decide +kernel
theorem dX2_listCut_62 : decode cX2_listCut 62 = .ok (.iconst 1, 1) := by decide +kernel
theorem dX2_listCut_63 : decode cX2_listCut 63 = .ok (.iaload, 1) := by decide +kernel
theorem dX2_listCut_64 : decode cX2_listCut 64 = .ok (.iconst 1, 1) := by decide +kernel
theorem dX2_listCut_65 : decode cX2_listCut 65 = .ok (.isub, 1) := by decide +kernel
theorem dX2_listCut_66 : decode cX2_listCut 66 = .ok (.imul, 1) := by decide +kernel
theorem dX2_listCut_67 : decode cX2_listCut 67 = .ok (.iadd, 1) := by decide +kernel
theorem dX2_listCut_68 : decode cX2_listCut 68 = .ok (.iload 11, 2) := by decide +kernel
theorem dX2_listCut_70 : decode cX2_listCut 70 = .ok (.aload 7, 2) := by decide +kernel
theorem dX2_listCut_72 : decode cX2_listCut 72 = .ok (.iconst 2, 1) := by decide +kernel
theorem dX2_listCut_73 : decode cX2_listCut 73 = .ok (.iaload, 1) := by decide +kernel
theorem dX2_listCut_74 : decode cX2_listCut 74 = .ok (.iconst 1, 1) := by decide +kernel
theorem dX2_listCut_75 : decode cX2_listCut 75 = .ok (.isub, 1) := by decide +kernel
theorem dX2_listCut_76 : decode cX2_listCut 76 = .ok (.imul, 1) := by decide +kernel
theorem dX2_listCut_77 : decode cX2_listCut 77 = .ok (.iadd, 1) := by decide +kernel
theorem dX2_listCut_78 : decode cX2_listCut 78 = .ok (.istore 12, 2) := by decide +kernel
theorem dX2_listCut_80 : decode cX2_listCut 80 = .ok (.iload 5, 2) := by decide +kernel
theorem dX2_listCut_82 : decode cX2_listCut 82 = .ok (.iload 12, 2) := by decide +kernel
theorem dX2_listCut_84 : decode cX2_listCut 84 = .ok (.if_icmp .gt 21, 3) := by decide +kernel
theorem dX2_listCut_87 : decode cX2_listCut 87 = .ok (.aload_n 0, 1) := by decide +kernel
theorem dX2_listCut_88 : decode cX2_listCut 88 = .ok (.iload_n 1, 1) := by decide +kernel
theorem dX2_listCut_89 : decode cX2_listCut 89 = .ok (.iload 9, 2) := by decide +kernel
theorem dX2_listCut_91 : decode cX2_listCut 91 = .ok (.iadd, 1) := by decide +kernel
theorem dX2_listCut_92 : decode cX2_listCut 92 = .ok (.iload_n 2, 1) := by decide +kernel
theorem dX2_listCut_93 : decode cX2_listCut 93 = .ok (.iload 10, 2) := by decide +kernel
theorem dX2_listCut_95 : decode cX2_listCut 95 = .ok (.iadd, 1) := by decide +kernel
theorem dX2_listCut_96 : decode cX2_listCut 96 = .ok (.iload_n 3, 1) := by decide +kernel
theorem dX2_listCut_97 : decode cX2_listCut 97 = .ok (.iload 11, 2) := by decide +kernel
theorem dX2_listCut_99 : decode cX2_listCut 99 = .ok (.iadd, 1) := by decide +kernel
theorem dX2_listCut_100 : decode cX2_listCut 100 = .ok (.iload 6, 2) := by decide +kernel
theorem dX2_listCut_102 : decode cX2_listCut 102 = .ok (.invokevirtual 30, 3) := by decide +kernel
theorem dX2_listCut_105 : decode cX2_listCut 105 = .ok (.iinc 10 1, 3) := by decide +kernel
theorem dX2_listCut_108 : decode cX2_listCut 108 = .ok (.goto (-79), 3) := by decide +kernel
theorem dX2_listCut_111 : decode cX2_listCut 111 = .ok (.iinc 9 1, 3) := by decide +kernel
theorem dX2_listCut_114 : decode cX2_listCut 114 = .ok (.goto (-95), 3) := by decide +kernel
theorem dX2_listCut_117 : decode cX2_listCut 117 = .ok (.return_, 1) := by decide +kernel
theorem dX2_add_0 : decode cX2_add 0 = .ok (.iload_n 1, 1) := by decide +kernel
theorem dX2_add_1 : decode cX2_add 1 = .ok (.bipush 6, 2) := by decide +kernel
theorem dX2_add_3 : decode cX2_add 3 = .ok (.if_icmp .gt 24, 3) := by decide +kernel
theorem dX2_add_6 : decode cX2_add 6 = .ok (.iload_n 2, 1) := by decide +kernel
theorem dX2_add_7 : decode cX2_add 7 = .ok (.bipush 6, 2) := by decide +kernel
theorem dX2_add_9 : decode cX2_add 9 = .ok (.if_icmp .gt 18, 3) := by decide +kernel
theorem dX2_add_12 : decode cX2_add 12 = .ok (.iload_n 3, 1) := by decide +kernel
theorem dX2_add_13 : decode cX2_add 13 = .ok (.bipush 6, 2) := by decide +kernel
theorem dX2_add_15 : decode cX2_add 15 = .ok (.if_icmp .gt 12, 3) := by decide +kernel
theorem dX2_add_18 : decode cX2_add 18 = .ok (.aload_n 0, 1) := by decide +kernel
theorem dX2_add_19 : decode cX2_add 19 = .ok (.getfield 18, 3) := by decide +kernel
theorem dX2_add_22 : decode cX2_add 22 = .ok (.bipush 16, 2) := by decide +kernel
theorem dX2_add_24 : decode cX2_add 24 = .ok (.if_icmp .lt 4, 3) := by decide +kernel
theorem dX2_add_27 : decode cX2_add 27 = .ok (.return_, 1) := by decide +kernel
theorem dX2_add_28 : decode cX2_add 28 = .ok (.iconst 0, 1) := by decide +kernel
theorem dX2_add_29 : decode cX2_add 29 = .ok (.istore 5, 2) := by decide +kernel
theorem dX2_add_31 : decode cX2_add 31 = .ok (.iload 5, 2) := by decide +kernel
theorem dX2_add_33 : decode cX2_add 33 = .ok (.aload_n 0, 1) := by decide +kernel
theorem dX2_add_34 : decode cX2_add 34 = .ok (.getfield 18, 3) := by decide +kernel
theorem dX2_add_37 : decode cX2_add 37 = .ok (.if_icmp .ge 34, 3) := by decide +kernel
theorem dX2_add_40 : decode cX2_add 40 = .ok (.aload_n 0, 1) := by decide +kernel
theorem dX2_add_41 : decode cX2_add 41 = .ok (.getfield 15, 3) := by decide +kernel
theorem dX2_add_44 : decode cX2_add 44 = .ok (.iload 5, 2) := by decide +kernel
theorem dX2_add_46 : decode cX2_add 46 = .ok (.iaload, 1) := by decide +kernel
theorem dX2_add_47 : decode cX2_add 47 = .ok (.iload 4, 2) := by decide +kernel
theorem dX2_add_49 : decode cX2_add 49 = .ok (.if_icmp .gt 16, 3) := by decide +kernel
theorem dX2_add_52 : decode cX2_add 52 = .ok (.aload_n 0, 1) := by decide +kernel
theorem dX2_add_53 : decode cX2_add 53 = .ok (.iload_n 1, 1) := by decide +kernel
theorem dX2_add_54 : decode cX2_add 54 = .ok (.iload_n 2, 1) := by decide +kernel
theorem dX2_add_55 : decode cX2_add 55 = .ok (.iload_n 3, 1) := by decide +kernel
theorem dX2_add_56 : decode cX2_add 56 = .ok (.iload 5, 2) := by decide +kernel
theorem dX2_add_58 : decode cX2_add 58 = .ok (.invokevirtual 34, 3) := by decide +kernel
theorem dX2_add_61 : decode cX2_add 61 = .ok (.ifCond .eq 4, 3) := by decide +kernel
theorem dX2_add_64 : decode cX2_add 64 = .ok (.return_, 1) := by decide +kernel
theorem dX2_add_65 : decode cX2_add 65 = .ok (.iinc 5 1, 3) := by decide +kernel
theorem dX2_add_68 : decode cX2_add 68 = .ok (.goto (-37), 3) := by decide +kernel
theorem dX2_add_71 : decode cX2_add 71 = .ok (.aload_n 0, 1) := by decide +kernel
theorem dX2_add_72 : decode cX2_add 72 = .ok (.getfield 11, 3) := by decide +kernel
theorem dX2_add_75 : decode cX2_add 75 = .ok (.aload_n 0, 1) := by decide +kernel
theorem dX2_add_76 : decode cX2_add 76 = .ok (.getfield 18, 3) := by decide +kernel
theorem dX2_add_79 : decode cX2_add 79 = .ok (.iconst 3, 1) := by decide +kernel
theorem dX2_add_80 : decode cX2_add 80 = .ok (.imul, 1) := by decide +kernel
theorem dX2_add_81 : decode cX2_add 81 = .ok (.iload_n 1, 1) := by decide +kernel
theorem dX2_add_82 : decode cX2_add 82 = .ok (.iastore, 1) := by decide +kernel
theorem dX2_add_83 : decode cX2_add 83 = .ok (.aload_n 0, 1) := by decide +kernel
theorem dX2_add_84 : decode cX2_add 84 = .ok (.getfield 11, 3) := by decide +kernel
theorem dX2_add_87 : decode cX2_add 87 = .ok (.aload_n 0, 1) := by decide +kernel
theorem dX2_add_88 : decode cX2_add 88 = .ok (.getfield 18, 3) := by decide +kernel
theorem dX2_add_91 : decode cX2_add 91 = .ok (.iconst 3, 1) := by decide +kernel
theorem dX2_add_92 : decode cX2_add 92 = .ok (.imul, 1) := by decide +kernel
theorem dX2_add_93 : decode cX2_add 93 = .ok (.iconst 1, 1) := by decide +kernel
theorem dX2_add_94 : decode cX2_add 94 = .ok (.iadd, 1) := by decide +kernel
theorem dX2_add_95 : decode cX2_add 95 = .ok (.iload_n 2, 1) := by decide +kernel
theorem dX2_add_96 : decode cX2_add 96 = .ok (.iastore, 1) := by decide +kernel
theorem dX2_add_97 : decode cX2_add 97 = .ok (.aload_n 0, 1) := by decide +kernel
theorem dX2_add_98 : decode cX2_add 98 = .ok (.getfield 11, 3) := by decide +kernel
theorem dX2_add_101 : decode cX2_add 101 = .ok (.aload_n 0, 1) := by decide +kernel
theorem dX2_add_102 : decode cX2_add 102 = .ok (.getfield 18, 3) := by decide +kernel
theorem dX2_add_105 : decode cX2_add 105 = .ok (.iconst 3, 1) := by decide +kernel
theorem dX2_add_106 : decode cX2_add 106 = .ok (.imul, 1) := by decide +kernel
theorem dX2_add_107 : decode cX2_add 107 = .ok (.iconst 2, 1) := by decide +kernel
theorem dX2_add_108 : decode cX2_add 108 = .ok (.iadd, 1) := by decide +kernel
theorem dX2_add_109 : decode cX2_add 109 = .ok (.iload_n 3, 1) := by decide +kernel
theorem dX2_add_110 : decode cX2_add 110 = .ok (.iastore, 1) := by decide +kernel
theorem dX2_add_111 : decode cX2_add 111 = .ok (.aload_n 0, 1) := by decide +kernel
theorem dX2_add_112 : decode cX2_add 112 = .ok (.getfield 15, 3) := by decide +kernel
theorem dX2_add_115 : decode cX2_add 115 = .ok (.aload_n 0, 1) := by decide +kernel
theorem dX2_add_116 : decode cX2_add 116 = .ok (.getfield 18, 3) := by decide +kernel
theorem dX2_add_119 : decode cX2_add 119 = .ok (.iload 4, 2) := by decide +kernel
theorem dX2_add_121 : decode cX2_add 121 = .ok (.iastore, 1) := by decide +kernel
theorem dX2_add_122 : decode cX2_add 122 = .ok (.aload_n 0, 1) := by decide +kernel
theorem dX2_add_123 : decode cX2_add 123 = .ok (.dup, 1) := by decide +kernel
theorem dX2_add_124 : decode cX2_add 124 = .ok (.getfield 18, 3) := by decide +kernel
theorem dX2_add_127 : decode cX2_add 127 = .ok (.iconst 1, 1) := by decide +kernel
theorem dX2_add_128 : decode cX2_add 128 = .ok (.iadd, 1) := by decide +kernel
theorem dX2_add_129 : decode cX2_add 129 = .ok (.putfield 18, 3) := by decide +kernel
theorem dX2_add_132 : decode cX2_add 132 = .ok (.return_, 1) := by decide +kernel
theorem dX2_canBeTakenFrom_0 : decode cX2_canBeTakenFrom 0 = .ok (.iload 4, 2) := by decide +kernel
theorem dX2_canBeTakenFrom_2 : decode cX2_canBeTakenFrom 2 = .ok (.iconst 3, 1) := by decide +kernel
theorem dX2_canBeTakenFrom_3 : decode cX2_canBeTakenFrom 3 = .ok (.imul, 1) := by decide +kernel
theorem dX2_canBeTakenFrom_4 : decode cX2_canBeTakenFrom 4 = .ok (.istore 5, 2) := by decide +kernel
theorem dX2_canBeTakenFrom_6 : decode cX2_canBeTakenFrom 6 = .ok (.aload_n 0, 1) := by decide +kernel
theorem dX2_canBeTakenFrom_7 : decode cX2_canBeTakenFrom 7 = .ok (.getfield 11, 3) := by decide +kernel
theorem dX2_canBeTakenFrom_10 : decode cX2_canBeTakenFrom 10 = .ok (.iload 5, 2) := by decide +kernel
theorem dX2_canBeTakenFrom_12 : decode cX2_canBeTakenFrom 12 = .ok (.iaload, 1) := by decide +kernel
theorem dX2_canBeTakenFrom_13 : decode cX2_canBeTakenFrom 13 = .ok (.iload_n 1, 1) := by decide +kernel
theorem dX2_canBeTakenFrom_14 : decode cX2_canBeTakenFrom 14 = .ok (.if_icmp .gt 33, 3) := by decide +kernel
theorem dX2_canBeTakenFrom_17 : decode cX2_canBeTakenFrom 17 = .ok (.aload_n 0, 1) := by decide +kernel
theorem dX2_canBeTakenFrom_18 : decode cX2_canBeTakenFrom 18 = .ok (.getfield 11, 3) := by decide +kernel
theorem dX2_canBeTakenFrom_21 : decode cX2_canBeTakenFrom 21 = .ok (.iload 5, 2) := by decide +kernel
theorem dX2_canBeTakenFrom_23 : decode cX2_canBeTakenFrom 23 = .ok (.iconst 1, 1) := by decide +kernel
theorem dX2_canBeTakenFrom_24 : decode cX2_canBeTakenFrom 24 = .ok (.iadd, 1) := by decide +kernel
theorem dX2_canBeTakenFrom_25 : decode cX2_canBeTakenFrom 25 = .ok (.iaload, 1) := by decide +kernel
theorem dX2_canBeTakenFrom_26 : decode cX2_canBeTakenFrom 26 = .ok (.iload_n 2, 1) := by decide +kernel
theorem dX2_canBeTakenFrom_27 : decode cX2_canBeTakenFrom 27 = .ok (.if_icmp .gt 20, 3) := by decide +kernel
theorem dX2_canBeTakenFrom_30 : decode cX2_canBeTakenFrom 30 = .ok (.aload_n 0, 1) := by decide +kernel
theorem dX2_canBeTakenFrom_31 : decode cX2_canBeTakenFrom 31 = .ok (.getfield 11, 3) := by decide +kernel
theorem dX2_canBeTakenFrom_34 : decode cX2_canBeTakenFrom 34 = .ok (.iload 5, 2) := by decide +kernel
theorem dX2_canBeTakenFrom_36 : decode cX2_canBeTakenFrom 36 = .ok (.iconst 2, 1) := by decide +kernel
theorem dX2_canBeTakenFrom_37 : decode cX2_canBeTakenFrom 37 = .ok (.iadd, 1) := by decide +kernel
theorem dX2_canBeTakenFrom_38 : decode cX2_canBeTakenFrom 38 = .ok (.iaload, 1) := by decide +kernel
theorem dX2_canBeTakenFrom_39 : decode cX2_canBeTakenFrom 39 = .ok (.iload_n 3, 1) := by decide +kernel
theorem dX2_canBeTakenFrom_40 : decode cX2_canBeTakenFrom 40 = .ok (.if_icmp .gt 7, 3) := by decide +kernel
theorem dX2_canBeTakenFrom_43 : decode cX2_canBeTakenFrom 43 = .ok (.iconst 1, 1) := by decide +kernel
theorem dX2_canBeTakenFrom_44 : decode cX2_canBeTakenFrom 44 = .ok (.goto 4, 3) := by decide +kernel
theorem dX2_canBeTakenFrom_47 : decode cX2_canBeTakenFrom 47 = .ok (.iconst 0, 1) := by decide +kernel
theorem dX2_canBeTakenFrom_48 : decode cX2_canBeTakenFrom 48 = .ok (.ireturn, 1) := by decide +kernel
theorem dX2_stones_0 : decode cX2_stones 0 = .ok (.iload_n 1, 1) := by decide +kernel
theorem dX2_stones_1 : decode cX2_stones 1 = .ok (.iconst 3, 1) := by decide +kernel
theorem dX2_stones_2 : decode cX2_stones 2 = .ok (.imul, 1) := by decide +kernel
theorem dX2_stones_3 : decode cX2_stones 3 = .ok (.istore_n 2, 1) := by decide +kernel
theorem dX2_stones_4 : decode cX2_stones 4 = .ok (.aload_n 0, 1) := by decide +kernel
theorem dX2_stones_5 : decode cX2_stones 5 = .ok (.getfield 11, 3) := by decide +kernel
theorem dX2_stones_8 : decode cX2_stones 8 = .ok (.iload_n 2, 1) := by decide +kernel
theorem dX2_stones_9 : decode cX2_stones 9 = .ok (.iaload, 1) := by decide +kernel
theorem dX2_stones_10 : decode cX2_stones 10 = .ok (.aload_n 0, 1) := by decide +kernel
theorem dX2_stones_11 : decode cX2_stones 11 = .ok (.getfield 11, 3) := by decide +kernel
theorem dX2_stones_14 : decode cX2_stones 14 = .ok (.iload_n 2, 1) := by decide +kernel
theorem dX2_stones_15 : decode cX2_stones 15 = .ok (.iconst 1, 1) := by decide +kernel
theorem dX2_stones_16 : decode cX2_stones 16 = .ok (.iadd, 1) := by decide +kernel
theorem dX2_stones_17 : decode cX2_stones 17 = .ok (.iaload, 1) := by decide +kernel
theorem dX2_stones_18 : decode cX2_stones 18 = .ok (.iadd, 1) := by decide +kernel
theorem dX2_stones_19 : decode cX2_stones 19 = .ok (.aload_n 0, 1) := by decide +kernel
theorem dX2_stones_20 : decode cX2_stones 20 = .ok (.getfield 11, 3) := by decide +kernel
theorem dX2_stones_23 : decode cX2_stones 23 = .ok (.iload_n 2, 1) := by decide +kernel
theorem dX2_stones_24 : decode cX2_stones 24 = .ok (.iconst 2, 1) := by decide +kernel
theorem dX2_stones_25 : decode cX2_stones 25 = .ok (.iadd, 1) := by decide +kernel
theorem dX2_stones_26 : decode cX2_stones 26 = .ok (.iaload, 1) := by decide +kernel
theorem dX2_stones_27 : decode cX2_stones 27 = .ok (.iadd, 1) := by decide +kernel
theorem dX2_stones_28 : decode cX2_stones 28 = .ok (.ireturn, 1) := by decide +kernel
theorem dX3_init_0 : decode cX3_init 0 = .ok (.aload_n 0, 1) := by decide +kernel
theorem dX3_init_1 : decode cX3_init 1 = .ok (.invokespecial 3, 3) := by decide +kernel
theorem dX3_init_4 : decode cX3_init 4 = .ok (.aload_n 0, 1) := by decide +kernel
theorem dX3_init_5 : decode cX3_init 5 = .ok (.iconst 3, 1) := by decide +kernel
theorem dX3_init_6 : decode cX3_init 6 = .ok (.newarray .int, 2) := by decide +kernel
theorem dX3_init_8 : decode cX3_init 8 = .ok (.putfield 9, 3) := by decide +kernel
theorem dX3_init_11 : decode cX3_init 11 = .ok (.aload_n 0, 1) := by decide +kernel
theorem dX3_init_12 : decode cX3_init 12 = .ok (.iconst 3, 1) := by decide +kernel
theorem dX3_init_13 : decode cX3_init 13 = .ok (.newarray .int, 2) := by decide +kernel
theorem dX3_init_15 : decode cX3_init 15 = .ok (.putfield 15, 3) := by decide +kernel
theorem dX3_init_18 : decode cX3_init 18 = .ok (.aload_n 0, 1) := by decide +kernel
theorem dX3_init_19 : decode cX3_init 19 = .ok (.iconst 3, 1) := by decide +kernel
theorem dX3_init_20 : decode cX3_init 20 = .ok (.newarray .int, 2) := by decide +kernel
theorem dX3_init_22 : decode cX3_init 22 = .ok (.putfield 18, 3) := by decide +kernel
theorem dX3_init_25 : decode cX3_init 25 = .ok (.aload_n 0, 1) := by decide +kernel
theorem dX3_init_26 : decode cX3_init 26 = .ok (.iconst 3, 1) := by decide +kernel
theorem dX3_init_27 : decode cX3_init 27 = .ok (.anewarray 21, 3) := by decide +kernel
