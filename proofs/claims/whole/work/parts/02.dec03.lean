theorem dX8_readLine_8 : decode cX8_readLine 8 = .ok (.aload_n 0, 1) := by decide +kernel
theorem dX8_readLine_9 : decode cX8_readLine 9 = .ok (.iconst 2, 1) := by decide +kernel
theorem dX8_readLine_10 : decode cX8_readLine 10 = .ok (.iconst 0, 1) := by decide +kernel
theorem dX8_readLine_11 : decode cX8_readLine 11 = .ok (.bipush 19, 2) := by decide +kernel
theorem dX8_readLine_13 : decode cX8_readLine 13 = .ok (.invokevirtual 51, 3) := by decide +kernel
theorem dX8_readLine_16 : decode cX8_readLine 16 = .ok (.ifCond .eq 12, 3) := by decide +kernel
theorem dX8_readLine_19 : decode cX8_readLine 19 = .ok (.aload_n 0, 1) := by decide +kernel
theorem dX8_readLine_20 : decode cX8_readLine 20 = .ok (.bipush 44, 2) := by decide +kernel
theorem dX8_readLine_22 : decode cX8_readLine 22 = .ok (.invokevirtual 35, 3) := by decide +kernel
theorem dX8_readLine_25 : decode cX8_readLine 25 = .ok (.ifCond .ne 5, 3) := by decide +kernel
theorem dX8_readLine_28 : decode cX8_readLine 28 = .ok (.iconst 0, 1) := by decide +kernel
theorem dX8_readLine_29 : decode cX8_readLine 29 = .ok (.ireturn, 1) := by decide +kernel
theorem dX8_readLine_30 : decode cX8_readLine 30 = .ok (.aload_n 1, 1) := by decide +kernel
theorem dX8_readLine_31 : decode cX8_readLine 31 = .ok (.getfield 77, 3) := by decide +kernel
theorem dX8_readLine_34 : decode cX8_readLine 34 = .ok (.aload_n 1, 1) := by decide +kernel
theorem dX8_readLine_35 : decode cX8_readLine 35 = .ok (.getfield 74, 3) := by decide +kernel
theorem dX8_readLine_38 : decode cX8_readLine 38 = .ok (.aaload, 1) := by decide +kernel
theorem dX8_readLine_39 : decode cX8_readLine 39 = .ok (.astore_n 2, 1) := by decide +kernel
theorem dX8_readLine_40 : decode cX8_readLine 40 = .ok (.aload_n 2, 1) := by decide +kernel
theorem dX8_readLine_41 : decode cX8_readLine 41 = .ok (.aload_n 0, 1) := by decide +kernel
theorem dX8_readLine_42 : decode cX8_readLine 42 = .ok (.getfield 15, 3) := by decide +kernel
theorem dX8_readLine_45 : decode cX8_readLine 45 = .ok (.iconst 0, 1) := by decide +kernel
theorem dX8_readLine_46 : decode cX8_readLine 46 = .ok (.iaload, 1) := by decide +kernel
theorem dX8_readLine_47 : decode cX8_readLine 47 = .ok (.aload_n 0, 1) := by decide +kernel
theorem dX8_readLine_48 : decode cX8_readLine 48 = .ok (.getfield 15, 3) := by decide +kernel
theorem dX8_readLine_51 : decode cX8_readLine 51 = .ok (.iconst 1, 1) := by decide +kernel
theorem dX8_readLine_52 : decode cX8_readLine 52 = .ok (.iaload, 1) := by decide +kernel
theorem dX8_readLine_53 : decode cX8_readLine 53 = .ok (.invokevirtual 81, 3) := by decide +kernel
theorem dX8_readLine_56 : decode cX8_readLine 56 = .ok (.iconst 0, 1) := by decide +kernel
theorem dX8_readLine_57 : decode cX8_readLine 57 = .ok (.istore_n 3, 1) := by decide +kernel
theorem dX8_readLine_58 : decode cX8_readLine 58 = .ok (.iload_n 3, 1) := by decide +kernel
theorem dX8_readLine_59 : decode cX8_readLine 59 = .ok (.iconst 5, 1) := by decide +kernel
theorem dX8_readLine_60 : decode cX8_readLine 60 = .ok (.if_icmp .ge 66, 3) := by decide +kernel
theorem dX8_readLine_63 : decode cX8_readLine 63 = .ok (.aload_n 0, 1) := by decide +kernel
theorem dX8_readLine_64 : decode cX8_readLine 64 = .ok (.aload_n 2, 1) := by decide +kernel
theorem dX8_readLine_65 : decode cX8_readLine 65 = .ok (.aload_n 1, 1) := by decide +kernel
theorem dX8_readLine_66 : decode cX8_readLine 66 = .ok (.getfield 87, 3) := by decide +kernel
theorem dX8_readLine_69 : decode cX8_readLine 69 = .ok (.iconst 1, 1) := by decide +kernel
theorem dX8_readLine_70 : decode cX8_readLine 70 = .ok (.aload_n 1, 1) := by decide +kernel
theorem dX8_readLine_71 : decode cX8_readLine 71 = .ok (.getfield 74, 3) := by decide +kernel
theorem dX8_readLine_74 : decode cX8_readLine 74 = .ok (.ishl, 1) := by decide +kernel
theorem dX8_readLine_75 : decode cX8_readLine 75 = .ok (.invokevirtual 90, 3) := by decide +kernel
theorem dX8_readLine_78 : decode cX8_readLine 78 = .ok (.ifCond .ne 5, 3) := by decide +kernel
theorem dX8_readLine_81 : decode cX8_readLine 81 = .ok (.iconst 0, 1) := by decide +kernel
theorem dX8_readLine_82 : decode cX8_readLine 82 = .ok (.ireturn, 1) := by decide +kernel
theorem dX8_readLine_83 : decode cX8_readLine 83 = .ok (.aload_n 0, 1) := by decide +kernel
theorem dX8_readLine_84 : decode cX8_readLine 84 = .ok (.getfield 28, 3) := by decide +kernel
theorem dX8_readLine_87 : decode cX8_readLine 87 = .ok (.aload_n 0, 1) := by decide +kernel
theorem dX8_readLine_88 : decode cX8_readLine 88 = .ok (.getfield 19, 3) := by decide +kernel
theorem dX8_readLine_91 : decode cX8_readLine 91 = .ok (.if_icmp .ge 29, 3) := by decide +kernel
theorem dX8_readLine_94 : decode cX8_readLine 94 = .ok (.aload_n 0, 1) := by decide +kernel
theorem dX8_readLine_95 : decode cX8_readLine 95 = .ok (.getfield 9, 3) := by decide +kernel
theorem dX8_readLine_98 : decode cX8_readLine 98 = .ok (.aload_n 0, 1) := by decide +kernel
theorem dX8_readLine_99 : decode cX8_readLine 99 = .ok (.getfield 28, 3) := by decide +kernel
theorem dX8_readLine_102 : decode cX8_readLine 102 = .ok (.caload, 1) := by decide +kernel
theorem dX8_readLine_103 : decode cX8_readLine 103 = .ok (.bipush 59, 2) := by decide +kernel
theorem dX8_readLine_105 : decode cX8_readLine 105 = .ok (.if_icmp .ne 15, 3) := by decide +kernel
theorem dX8_readLine_108 : decode cX8_readLine 108 = .ok (.aload_n 1, 1) := by decide +kernel
theorem dX8_readLine_109 : decode cX8_readLine 109 = .ok (.dup, 1) := by decide +kernel
theorem dX8_readLine_110 : decode cX8_readLine 110 = .ok (.getfield 74, 3) := by decide +kernel
theorem dX8_readLine_113 : decode cX8_readLine 113 = .ok (.iconst 1, 1) := by decide +kernel
theorem dX8_readLine_114 : decode cX8_readLine 114 = .ok (.iadd, 1) := by decide +kernel
theorem dX8_readLine_115 : decode cX8_readLine 115 = .ok (.putfield 74, 3) := by decide +kernel
theorem dX8_readLine_118 : decode cX8_readLine 118 = .ok (.iconst 1, 1) := by decide +kernel
theorem dX8_readLine_119 : decode cX8_readLine 119 = .ok (.ireturn, 1) := by decide +kernel
theorem dX8_readLine_120 : decode cX8_readLine 120 = .ok (.iinc 3 1, 3) := by decide +kernel
theorem dX8_readLine_123 : decode cX8_readLine 123 = .ok (.goto (-65), 3) := by decide +kernel
theorem dX8_readLine_126 : decode cX8_readLine 126 = .ok (.iconst 0, 1) := by decide +kernel
theorem dX8_readLine_127 : decode cX8_readLine 127 = .ok (.ireturn, 1) := by decide +kernel
theorem dX8_readRun_0 : decode cX8_readRun 0 = .ok (.iconst 0, 1) := by decide +kernel
theorem dX8_readRun_1 : decode cX8_readRun 1 = .ok (.istore 4, 2) := by decide +kernel
theorem dX8_readRun_3 : decode cX8_readRun 3 = .ok (.iconst 0, 1) := by decide +kernel
theorem dX8_readRun_4 : decode cX8_readRun 4 = .ok (.istore 5, 2) := by decide +kernel
theorem dX8_readRun_6 : decode cX8_readRun 6 = .ok (.aload_n 0, 1) := by decide +kernel
theorem dX8_readRun_7 : decode cX8_readRun 7 = .ok (.bipush 114, 2) := by decide +kernel
theorem dX8_readRun_9 : decode cX8_readRun 9 = .ok (.invokevirtual 35, 3) := by decide +kernel
theorem dX8_readRun_12 : decode cX8_readRun 12 = .ok (.ifCond .eq 9, 3) := by decide +kernel
theorem dX8_readRun_15 : decode cX8_readRun 15 = .ok (.iconst 1, 1) := by decide +kernel
theorem dX8_readRun_16 : decode cX8_readRun 16 = .ok (.istore 4, 2) := by decide +kernel
theorem dX8_readRun_18 : decode cX8_readRun 18 = .ok (.goto 50, 3) := by decide +kernel
theorem dX8_readRun_21 : decode cX8_readRun 21 = .ok (.aload_n 0, 1) := by decide +kernel
theorem dX8_readRun_22 : decode cX8_readRun 22 = .ok (.bipush 108, 2) := by decide +kernel
theorem dX8_readRun_24 : decode cX8_readRun 24 = .ok (.invokevirtual 35, 3) := by decide +kernel
theorem dX8_readRun_27 : decode cX8_readRun 27 = .ok (.ifCond .eq 9, 3) := by decide +kernel
theorem dX8_readRun_30 : decode cX8_readRun 30 = .ok (.iconst (-1), 1) := by decide +kernel
theorem dX8_readRun_31 : decode cX8_readRun 31 = .ok (.istore 4, 2) := by decide +kernel
theorem dX8_readRun_33 : decode cX8_readRun 33 = .ok (.goto 35, 3) := by decide +kernel
theorem dX8_readRun_36 : decode cX8_readRun 36 = .ok (.aload_n 0, 1) := by decide +kernel
theorem dX8_readRun_37 : decode cX8_readRun 37 = .ok (.bipush 117, 2) := by decide +kernel
theorem dX8_readRun_39 : decode cX8_readRun 39 = .ok (.invokevirtual 35, 3) := by decide +kernel
theorem dX8_readRun_42 : decode cX8_readRun 42 = .ok (.ifCond .eq 9, 3) := by decide +kernel
theorem dX8_readRun_45 : decode cX8_readRun 45 = .ok (.iconst (-1), 1) := by decide +kernel
theorem dX8_readRun_46 : decode cX8_readRun 46 = .ok (.istore 5, 2) := by decide +kernel
theorem dX8_readRun_48 : decode cX8_readRun 48 = .ok (.goto 20, 3) := by decide +kernel
theorem dX8_readRun_51 : decode cX8_readRun 51 = .ok (.aload_n 0, 1) := by decide +kernel
theorem dX8_readRun_52 : decode cX8_readRun 52 = .ok (.bipush 100, 2) := by decide +kernel
theorem dX8_readRun_54 : decode cX8_readRun 54 = .ok (.invokevirtual 35, 3) := by decide +kernel
theorem dX8_readRun_57 : decode cX8_readRun 57 = .ok (.ifCond .eq 9, 3) := by decide +kernel
theorem dX8_readRun_60 : decode cX8_readRun 60 = .ok (.iconst 1, 1) := by decide +kernel
theorem dX8_readRun_61 : decode cX8_readRun 61 = .ok (.istore 5, 2) := by decide +kernel
theorem dX8_readRun_63 : decode cX8_readRun 63 = .ok (.goto 5, 3) := by decide +kernel
theorem dX8_readRun_66 : decode cX8_readRun 66 = .ok (.iconst 0, 1) := by decide +kernel
theorem dX8_readRun_67 : decode cX8_readRun 67 = .ok (.ireturn, 1) := by decide +kernel
theorem dX8_readRun_68 : decode cX8_readRun 68 = .ok (.aload_n 0, 1) := by decide +kernel
theorem dX8_readRun_69 : decode cX8_readRun 69 = .ok (.iconst 1, 1) := by decide +kernel
theorem dX8_readRun_70 : decode cX8_readRun 70 = .ok (.bipush 12, 2) := by decide +kernel
theorem dX8_readRun_72 : decode cX8_readRun 72 = .ok (.invokevirtual 94, 3) := by decide +kernel
theorem dX8_readRun_75 : decode cX8_readRun 75 = .ok (.istore 6, 2) := by decide +kernel
theorem dX8_readRun_77 : decode cX8_readRun 77 = .ok (.iload 6, 2) := by decide +kernel
theorem dX8_readRun_79 : decode cX8_readRun 79 = .ok (.iconst (-1), 1) := by decide +kernel
theorem dX8_readRun_80 : decode cX8_readRun 80 = .ok (.if_icmp .eq 22, 3) := by decide +kernel
theorem dX8_readRun_83 : decode cX8_readRun 83 = .ok (.aload_n 1, 1) := by decide +kernel
theorem dX8_readRun_84 : decode cX8_readRun 84 = .ok (.iload 4, 2) := by decide +kernel
theorem dX8_readRun_86 : decode cX8_readRun 86 = .ok (.iload 5, 2) := by decide +kernel
theorem dX8_readRun_88 : decode cX8_readRun 88 = .ok (.iload 6, 2) := by decide +kernel
theorem dX8_readRun_90 : decode cX8_readRun 90 = .ok (.aload_n 2, 1) := by decide +kernel
theorem dX8_readRun_91 : decode cX8_readRun 91 = .ok (.iload_n 3, 1) := by decide +kernel
theorem dX8_readRun_92 : decode cX8_readRun 92 = .ok (.invokevirtual 98, 3) := by decide +kernel
theorem dX8_readRun_95 : decode cX8_readRun 95 = .ok (.ifCond .eq 7, 3) := by decide +kernel
theorem dX8_readRun_98 : decode cX8_readRun 98 = .ok (.iconst 1, 1) := by decide +kernel
theorem dX8_readRun_99 : decode cX8_readRun 99 = .ok (.goto 4, 3) := by decide +kernel
theorem dX8_readRun_102 : decode cX8_readRun 102 = .ok (.iconst 0, 1) := by decide +kernel
theorem dX8_readRun_103 : decode cX8_readRun 103 = .ok (.ireturn, 1) := by decide +kernel
theorem dX8_readNumbers_0 : decode cX8_readNumbers 0 = .ok (.iconst 0, 1) := by decide +kernel
theorem dX8_readNumbers_1 : decode cX8_readNumbers 1 = .ok (.istore 4, 2) := by decide +kernel
theorem dX8_readNumbers_3 : decode cX8_readNumbers 3 = .ok (.iload 4, 2) := by decide +kernel
theorem dX8_readNumbers_5 : decode cX8_readNumbers 5 = .ok (.iload_n 1, 1) := by decide +kernel
theorem dX8_readNumbers_6 : decode cX8_readNumbers 6 = .ok (.if_icmp .ge 61, 3) := by decide +kernel
theorem dX8_readNumbers_9 : decode cX8_readNumbers 9 = .ok (.iload 4, 2) := by decide +kernel
theorem dX8_readNumbers_11 : decode cX8_readNumbers 11 = .ok (.aload_n 0, 1) := by decide +kernel
theorem dX8_readNumbers_12 : decode cX8_readNumbers 12 = .ok (.getfield 15, 3) := by decide +kernel
theorem dX8_readNumbers_15 : decode cX8_readNumbers 15 = .ok (.arraylength, 1) := by decide +kernel
theorem dX8_readNumbers_16 : decode cX8_readNumbers 16 = .ok (.if_icmp .ge 51, 3) := by decide +kernel
theorem dX8_readNumbers_19 : decode cX8_readNumbers 19 = .ok (.iload 4, 2) := by decide +kernel
theorem dX8_readNumbers_21 : decode cX8_readNumbers 21 = .ok (.ifCond .le 14, 3) := by decide +kernel
theorem dX8_readNumbers_24 : decode cX8_readNumbers 24 = .ok (.aload_n 0, 1) := by decide +kernel
theorem dX8_readNumbers_25 : decode cX8_readNumbers 25 = .ok (.bipush 44, 2) := by decide +kernel
theorem dX8_readNumbers_27 : decode cX8_readNumbers 27 = .ok (.invokevirtual 35, 3) := by decide +kernel
theorem dX8_readNumbers_30 : decode cX8_readNumbers 30 = .ok (.ifCond .ne 5, 3) := by decide +kernel
theorem dX8_readNumbers_33 : decode cX8_readNumbers 33 = .ok (.iconst 0, 1) := by decide +kernel
theorem dX8_readNumbers_34 : decode cX8_readNumbers 34 = .ok (.ireturn, 1) := by decide +kernel
theorem dX8_readNumbers_35 : decode cX8_readNumbers 35 = .ok (.aload_n 0, 1) := by decide +kernel
theorem dX8_readNumbers_36 : decode cX8_readNumbers 36 = .ok (.getfield 15, 3) := by decide +kernel
theorem dX8_readNumbers_39 : decode cX8_readNumbers 39 = .ok (.iload 4, 2) := by decide +kernel
theorem dX8_readNumbers_41 : decode cX8_readNumbers 41 = .ok (.aload_n 0, 1) := by decide +kernel
theorem dX8_readNumbers_42 : decode cX8_readNumbers 42 = .ok (.iload_n 2, 1) := by decide +kernel
theorem dX8_readNumbers_43 : decode cX8_readNumbers 43 = .ok (.iload_n 3, 1) := by decide +kernel
theorem dX8_readNumbers_44 : decode cX8_readNumbers 44 = .ok (.invokevirtual 94, 3) := by decide +kernel
theorem dX8_readNumbers_47 : decode cX8_readNumbers 47 = .ok (.iastore, 1) := by decide +kernel
theorem dX8_readNumbers_48 : decode cX8_readNumbers 48 = .ok (.aload_n 0, 1) := by decide +kernel
theorem dX8_readNumbers_49 : decode cX8_readNumbers 49 = .ok (.getfield 15, 3) := by decide +kernel
theorem dX8_readNumbers_52 : decode cX8_readNumbers 52 = .ok (.iload 4, 2) := by decide +kernel
theorem dX8_readNumbers_54 : decode cX8_readNumbers 54 = .ok (.iaload, 1) := by decide +kernel
theorem dX8_readNumbers_55 : decode cX8_readNumbers 55 = .ok (.iconst (-1), 1) := by decide +kernel
theorem dX8_readNumbers_56 : decode cX8_readNumbers 56 = .ok (.if_icmp .ne 5, 3) := by decide +kernel
theorem dX8_readNumbers_59 : decode cX8_readNumbers 59 = .ok (.iconst 0, 1) := by decide +kernel
theorem dX8_readNumbers_60 : decode cX8_readNumbers 60 = .ok (.ireturn, 1) := by decide +kernel
theorem dX8_readNumbers_61 : decode cX8_readNumbers 61 = .ok (.iinc 4 1, 3) := by decide +kernel
theorem dX8_readNumbers_64 : decode cX8_readNumbers 64 = .ok (.goto (-61), 3) := by decide +kernel
theorem dX8_readNumbers_67 : decode cX8_readNumbers 67 = .ok (.iconst 1, 1) := by decide +kernel
theorem dX8_readNumbers_68 : decode cX8_readNumbers 68 = .ok (.ireturn, 1) := by decide +kernel
theorem dX8_readNumber_0 : decode cX8_readNumber 0 = .ok (.iconst 0, 1) := by decide +kernel
theorem dX8_readNumber_1 : decode cX8_readNumber 1 = .ok (.istore_n 3, 1) := by decide +kernel
theorem dX8_readNumber_2 : decode cX8_readNumber 2 = .ok (.iconst 0, 1) := by decide +kernel
theorem dX8_readNumber_3 : decode cX8_readNumber 3 = .ok (.istore 4, 2) := by decide +kernel
theorem dX8_readNumber_5 : decode cX8_readNumber 5 = .ok (.iload 4, 2) := by decide +kernel
theorem dX8_readNumber_7 : decode cX8_readNumber 7 = .ok (.iconst 2, 1) := by decide +kernel
theorem dX8_readNumber_8 : decode cX8_readNumber 8 = .ok (.if_icmp .ge 76, 3) := by decide +kernel
theorem dX8_readNumber_11 : decode cX8_readNumber 11 = .ok (.aload_n 0, 1) := by decide +kernel
theorem dX8_readNumber_12 : decode cX8_readNumber 12 = .ok (.getfield 28, 3) := by decide +kernel
theorem dX8_readNumber_15 : decode cX8_readNumber 15 = .ok (.aload_n 0, 1) := by decide +kernel
theorem dX8_readNumber_16 : decode cX8_readNumber 16 = .ok (.getfield 19, 3) := by decide +kernel
theorem dX8_readNumber_19 : decode cX8_readNumber 19 = .ok (.if_icmp .ge 65, 3) := by decide +kernel
theorem dX8_readNumber_22 : decode cX8_readNumber 22 = .ok (.aload_n 0, 1) := by decide +kernel
theorem dX8_readNumber_23 : decode cX8_readNumber 23 = .ok (.getfield 9, 3) := by decide +kernel
theorem dX8_readNumber_26 : decode cX8_readNumber 26 = .ok (.aload_n 0, 1) := by decide +kernel
theorem dX8_readNumber_27 : decode cX8_readNumber 27 = .ok (.getfield 28, 3) := by decide +kernel
theorem dX8_readNumber_30 : decode cX8_readNumber 30 = .ok (.caload, 1) := by decide +kernel
theorem dX8_readNumber_31 : decode cX8_readNumber 31 = .ok (.bipush 48, 2) := by decide +kernel
theorem dX8_readNumber_33 : decode cX8_readNumber 33 = .ok (.if_icmp .lt 51, 3) := by decide +kernel
theorem dX8_readNumber_36 : decode cX8_readNumber 36 = .ok (.aload_n 0, 1) := by decide +kernel
theorem dX8_readNumber_37 : decode cX8_readNumber 37 = .ok (.getfield 9, 3) := by decide +kernel
theorem dX8_readNumber_40 : decode cX8_readNumber 40 = .ok (.aload_n 0, 1) := by decide +kernel
theorem dX8_readNumber_41 : decode cX8_readNumber 41 = .ok (.getfield 28, 3) := by decide +kernel
theorem dX8_readNumber_44 : decode cX8_readNumber 44 = .ok (.caload, 1) := by decide +kernel
theorem dX8_readNumber_45 : decode cX8_readNumber 45 = .ok (.bipush 57, 2) := by decide +kernel
theorem dX8_readNumber_47 : decode cX8_readNumber 47 = .ok (.if_icmp .gt 37, 3) := by decide +kernel
theorem dX8_readNumber_50 : decode cX8_readNumber 50 = .ok (.bipush 10, 2) := by decide +kernel
theorem dX8_readNumber_52 : decode cX8_readNumber 52 = .ok (.iload_n 3, 1) := by decide +kernel
theorem dX8_readNumber_53 : decode cX8_readNumber 53 = .ok (.imul, 1) := by decide +kernel
theorem dX8_readNumber_54 : decode cX8_readNumber 54 = .ok (.aload_n 0, 1) := by decide +kernel
theorem dX8_readNumber_55 : decode cX8_readNumber 55 = .ok (.getfield 9, 3) := by decide +kernel
theorem dX8_readNumber_58 : decode cX8_readNumber 58 = .ok (.aload_n 0, 1) := by decide +kernel
theorem dX8_readNumber_59 : decode cX8_readNumber 59 = .ok (.getfield 28, 3) := by decide +kernel
theorem dX8_readNumber_62 : decode cX8_readNumber 62 = .ok (.caload, 1) := by decide +kernel
theorem dX8_readNumber_63 : decode cX8_readNumber 63 = .ok (.bipush 48, 2) := by decide +kernel
theorem dX8_readNumber_65 : decode cX8_readNumber 65 = .ok (.isub, 1) := by decide +kernel
theorem dX8_readNumber_66 : decode cX8_readNumber 66 = .ok (.iadd, 1) := by decide +kernel
theorem dX8_readNumber_67 : decode cX8_readNumber 67 = .ok (.istore_n 3, 1) := by decide +kernel
theorem dX8_readNumber_68 : decode cX8_readNumber 68 = .ok (.iinc 4 1, 3) := by decide +kernel
theorem dX8_readNumber_71 : decode cX8_readNumber 71 = .ok (.aload_n 0, 1) := by decide +kernel
theorem dX8_readNumber_72 : decode cX8_readNumber 72 = .ok (.dup, 1) := by decide +kernel
theorem dX8_readNumber_73 : decode cX8_readNumber 73 = .ok (.getfield 28, 3) := by decide +kernel
theorem dX8_readNumber_76 : decode cX8_readNumber 76 = .ok (.iconst 1, 1) := by decide +kernel
theorem dX8_readNumber_77 : decode cX8_readNumber 77 = .ok (.iadd, 1) := by decide +kernel
theorem dX8_readNumber_78 : decode cX8_readNumber 78 = .ok (.putfield 28, 3) := by decide +kernel
theorem dX8_readNumber_81 : decode cX8_readNumber 81 = .ok (.goto (-76), 3) := by decide +kernel
theorem dX8_readNumber_84 : decode cX8_readNumber 84 = .ok (.iload 4, 2) := by decide +kernel
theorem dX8_readNumber_86 : decode cX8_readNumber 86 = .ok (.ifCond .le 17, 3) := by decide +kernel
theorem dX8_readNumber_89 : decode cX8_readNumber 89 = .ok (.iload_n 3, 1) := by decide +kernel
theorem dX8_readNumber_90 : decode cX8_readNumber 90 = .ok (.iload_n 1, 1) := by decide +kernel
theorem dX8_readNumber_91 : decode cX8_readNumber 91 = .ok (.if_icmp .lt 12, 3) := by decide +kernel
theorem dX8_readNumber_94 : decode cX8_readNumber 94 = .ok (.iload_n 3, 1) := by decide +kernel
theorem dX8_readNumber_95 : decode cX8_readNumber 95 = .ok (.iload_n 2, 1) := by decide +kernel
theorem dX8_readNumber_96 : decode cX8_readNumber 96 = .ok (.if_icmp .gt 7, 3) := by decide +kernel
theorem dX8_readNumber_99 : decode cX8_readNumber 99 = .ok (.iload_n 3, 1) := by decide +kernel
theorem dX8_readNumber_100 : decode cX8_readNumber 100 = .ok (.goto 4, 3) := by decide +kernel
theorem dX8_readNumber_103 : decode cX8_readNumber 103 = .ok (.iconst (-1), 1) := by decide +kernel
theorem dX8_readNumber_104 : decode cX8_readNumber 104 = .ok (.ireturn, 1) := by decide +kernel
theorem dX8_take_0 : decode cX8_take 0 = .ok (.aload_n 0, 1) := by decide +kernel
theorem dX8_take_1 : decode cX8_take 1 = .ok (.getfield 28, 3) := by decide +kernel
theorem dX8_take_4 : decode cX8_take 4 = .ok (.aload_n 0, 1) := by decide +kernel
theorem dX8_take_5 : decode cX8_take 5 = .ok (.getfield 19, 3) := by decide +kernel
theorem dX8_take_8 : decode cX8_take 8 = .ok (.if_icmp .ge 16, 3) := by decide +kernel
theorem dX8_take_11 : decode cX8_take 11 = .ok (.aload_n 0, 1) := by decide +kernel
theorem dX8_take_12 : decode cX8_take 12 = .ok (.getfield 9, 3) := by decide +kernel
theorem dX8_take_15 : decode cX8_take 15 = .ok (.aload_n 0, 1) := by decide +kernel
theorem dX8_take_16 : decode cX8_take 16 = .ok (.getfield 28, 3) := by decide +kernel
theorem dX8_take_19 : decode cX8_take 19 = .ok (.caload, 1) := by decide +kernel
theorem dX8_take_20 : decode cX8_take 20 = .ok (.iload_n 1, 1) := by decide +kernel
theorem dX8_take_21 : decode cX8_take 21 = .ok (.if_icmp .eq 5, 3) := by decide +kernel
theorem dX8_take_24 : decode cX8_take 24 = .ok (.iconst 0, 1) := by decide +kernel
theorem dX8_take_25 : decode cX8_take 25 = .ok (.ireturn, 1) := by decide +kernel
theorem dX8_take_26 : decode cX8_take 26 = .ok (.aload_n 0, 1) := by decide +kernel
theorem dX8_take_27 : decode cX8_take 27 = .ok (.dup, 1) := by decide +kernel
theorem dX8_take_28 : decode cX8_take 28 = .ok (.getfield 28, 3) := by decide +kernel
theorem dX8_take_31 : decode cX8_take 31 = .ok (.iconst 1, 1) := by decide +kernel
theorem dX8_take_32 : decode cX8_take 32 = .ok (.iadd, 1) := by decide +kernel
theorem dX8_take_33 : decode cX8_take 33 = .ok (.putfield 28, 3) := by decide +kernel
theorem dX8_take_36 : decode cX8_take 36 = .ok (.iconst 1, 1) := by decide +kernel
theorem dX8_take_37 : decode cX8_take 37 = .ok (.ireturn, 1) := by decide +kernel
theorem dX9_init_0 : decode cX9_init 0 = .ok (.aload_n 0, 1) := by decide +kernel
theorem dX9_init_1 : decode cX9_init 1 = .ok (.invokespecial 3, 3) := by decide +kernel
theorem dX9_init_4 : decode cX9_init 4 = .ok (.aload_n 0, 1) := by decide +kernel
theorem dX9_init_5 : decode cX9_init 5 = .ok (.bipush 18, 2) := by decide +kernel
theorem dX9_init_7 : decode cX9_init 7 = .ok (.newarray .int, 2) := by decide +kernel
theorem dX9_init_9 : decode cX9_init 9 = .ok (.putfield 9, 3) := by decide +kernel
theorem dX9_init_12 : decode cX9_init 12 = .ok (.aload_n 0, 1) := by decide +kernel
theorem dX9_init_13 : decode cX9_init 13 = .ok (.iconst 3, 1) := by decide +kernel
theorem dX9_init_14 : decode cX9_init 14 = .ok (.newarray .int, 2) := by decide +kernel
theorem dX9_init_16 : decode cX9_init 16 = .ok (.putfield 15, 3) := by decide +kernel
theorem dX9_init_19 : decode cX9_init 19 = .ok (.aload_n 0, 1) := by decide +kernel
theorem dX9_init_20 : decode cX9_init 20 = .ok (.iconst 3, 1) := by decide +kernel
theorem dX9_init_21 : decode cX9_init 21 = .ok (.newarray .int, 2) := by decide +kernel
theorem dX9_init_23 : decode cX9_init 23 = .ok (.putfield 18, 3) := by decide +kernel
theorem dX9_init_26 : decode cX9_init 26 = .ok (.return_, 1) := by decide +kernel
theorem dX9_clear_0 : decode cX9_clear 0 = .ok (.aload_n 0, 1) := by decide +kernel
theorem dX9_clear_1 : decode cX9_clear 1 = .ok (.getfield 15, 3) := by decide +kernel
theorem dX9_clear_4 : decode cX9_clear 4 = .ok (.iconst 0, 1) := by decide +kernel
theorem dX9_clear_5 : decode cX9_clear 5 = .ok (.invokestatic 21, 3) := by decide +kernel
theorem dX9_clear_8 : decode cX9_clear 8 = .ok (.aload_n 0, 1) := by decide +kernel
theorem dX9_clear_9 : decode cX9_clear 9 = .ok (.getfield 18, 3) := by decide +kernel
theorem dX9_clear_12 : decode cX9_clear 12 = .ok (.iconst 0, 1) := by decide +kernel
theorem dX9_clear_13 : decode cX9_clear 13 = .ok (.invokestatic 21, 3) := by decide +kernel
theorem dX9_clear_16 : decode cX9_clear 16 = .ok (.aload_n 0, 1) := by decide +kernel
theorem dX9_clear_17 : decode cX9_clear 17 = .ok (.iconst 0, 1) := by decide +kernel
theorem dX9_clear_18 : decode cX9_clear 18 = .ok (.putfield 27, 3) := by decide +kernel
theorem dX9_clear_21 : decode cX9_clear 21 = .ok (.aload_n 0, 1) := by decide +kernel
theorem dX9_clear_22 : decode cX9_clear 22 = .ok (.iconst 0, 1) := by decide +kernel
theorem dX9_clear_23 : decode cX9_clear 23 = .ok (.putfield 31, 3) := by decide +kernel
theorem dX9_clear_26 : decode cX9_clear 26 = .ok (.aload_n 0, 1) := by decide +kernel
theorem dX9_clear_27 : decode cX9_clear 27 = .ok (.iconst 0, 1) := by decide +kernel
theorem dX9_clear_28 : decode cX9_clear 28 = .ok (.putfield 34, 3) := by decide +kernel
theorem dX9_clear_31 : decode cX9_clear 31 = .ok (.aload_n 0, 1) := by decide +kernel
theorem dX9_clear_32 : decode cX9_clear 32 = .ok (.iconst 0, 1) := by decide +kernel
theorem dX9_clear_33 : decode cX9_clear 33 = .ok (.putfield 37, 3) := by decide +kernel
theorem dX9_clear_36 : decode cX9_clear 36 = .ok (.aload_n 0, 1) := by decide +kernel
theorem dX9_clear_37 : decode cX9_clear 37 = .ok (.iconst 0, 1) := by decide +kernel
theorem dX9_clear_38 : decode cX9_clear 38 = .ok (.putfield 40, 3) := by decide +kernel
theorem dX9_clear_41 : decode cX9_clear 41 = .ok (.return_, 1) := by decide +kernel
theorem dX9_add_0 : decode cX9_add 0 = .ok (.aload_n 0, 1) := by decide +kernel
theorem dX9_add_1 : decode cX9_add 1 = .ok (.getfield 31, 3) := by decide +kernel
theorem dX9_add_4 : decode cX9_add 4 = .ok (.bipush 18, 2) := by decide +kernel
theorem dX9_add_6 : decode cX9_add 6 = .ok (.if_icmp .lt 4, 3) := by decide +kernel
theorem dX9_add_9 : decode cX9_add 9 = .ok (.return_, 1) := by decide +kernel
theorem dX9_add_10 : decode cX9_add 10 = .ok (.iload_n 1, 1) := by decide +kernel
theorem dX9_add_11 : decode cX9_add 11 = .ok (.iload_n 3, 1) := by decide +kernel
theorem dX9_add_12 : decode cX9_add 12 = .ok (.if_icmp .ge 7, 3) := by decide +kernel
theorem dX9_add_15 : decode cX9_add 15 = .ok (.iconst 1, 1) := by decide +kernel
theorem dX9_add_16 : decode cX9_add 16 = .ok (.goto 4, 3) := by decide +kernel
theorem dX9_add_19 : decode cX9_add 19 = .ok (.iconst 0, 1) := by decide +kernel
theorem dX9_add_20 : decode cX9_add 20 = .ok (.istore 5, 2) := by decide +kernel
theorem dX9_add_22 : decode cX9_add 22 = .ok (.aload_n 0, 1) := by decide +kernel
theorem dX9_add_23 : decode cX9_add 23 = .ok (.getfield 9, 3) := by decide +kernel
theorem dX9_add_26 : decode cX9_add 26 = .ok (.aload_n 0, 1) := by decide +kernel
theorem dX9_add_27 : decode cX9_add 27 = .ok (.getfield 31, 3) := by decide +kernel
theorem dX9_add_30 : decode cX9_add 30 = .ok (.bipush 20, 2) := by decide +kernel
theorem dX9_add_32 : decode cX9_add 32 = .ok (.iload_n 1, 1) := by decide +kernel
theorem dX9_add_33 : decode cX9_add 33 = .ok (.imul, 1) := by decide +kernel
theorem dX9_add_34 : decode cX9_add 34 = .ok (.iconst 2, 1) := by decide +kernel
theorem dX9_add_35 : decode cX9_add 35 = .ok (.iload_n 2, 1) := by decide +kernel
theorem dX9_add_36 : decode cX9_add 36 = .ok (.imul, 1) := by decide +kernel
theorem dX9_add_37 : decode cX9_add 37 = .ok (.iadd, 1) := by decide +kernel
theorem dX9_add_38 : decode cX9_add 38 = .ok (.iload 5, 2) := by decide +kernel
theorem dX9_add_40 : decode cX9_add 40 = .ok (.ifCond .eq 7, 3) := by decide +kernel
theorem dX9_add_43 : decode cX9_add 43 = .ok (.iconst 1, 1) := by decide +kernel
theorem dX9_add_44 : decode cX9_add 44 = .ok (.goto 4, 3) := by decide +kernel
theorem dX9_add_47 : decode cX9_add 47 = .ok (.iconst 0, 1) := by decide +kernel
theorem dX9_add_48 : decode cX9_add 48 = .ok (.iadd, 1) := by decide +kernel
theorem dX9_add_49 : decode cX9_add 49 = .ok (.iastore, 1) := by decide +kernel
theorem dX9_add_50 : decode cX9_add 50 = .ok (.aload_n 0, 1) := by decide +kernel
theorem dX9_add_51 : decode cX9_add 51 = .ok (.dup, 1) := by decide +kernel
theorem dX9_add_52 : decode cX9_add 52 = .ok (.getfield 31, 3) := by decide +kernel
theorem dX9_add_55 : decode cX9_add 55 = .ok (.iconst 1, 1) := by decide +kernel
theorem dX9_add_56 : decode cX9_add 56 = .ok (.iadd, 1) := by decide +kernel
theorem dX9_add_57 : decode cX9_add 57 = .ok (.putfield 31, 3) := by decide +kernel
theorem dX9_add_60 : decode cX9_add 60 = .ok (.aload_n 0, 1) := by decide +kernel
theorem dX9_add_61 : decode cX9_add 61 = .ok (.getfield 15, 3) := by decide +kernel
theorem dX9_add_64 : decode cX9_add 64 = .ok (.iload_n 2, 1) := by decide +kernel
theorem dX9_add_65 : decode cX9_add 65 = .ok (.dup2, 1) := by decide +kernel
theorem dX9_add_66 : decode cX9_add 66 = .ok (.iaload, 1) := by decide +kernel
theorem dX9_add_67 : decode cX9_add 67 = .ok (.iconst 1, 1) := by decide +kernel
theorem dX9_add_68 : decode cX9_add 68 = .ok (.iadd, 1) := by decide +kernel
theorem dX9_add_69 : decode cX9_add 69 = .ok (.iastore, 1) := by decide +kernel
theorem dX9_add_70 : decode cX9_add 70 = .ok (.aload_n 0, 1) := by decide +kernel
theorem dX9_add_71 : decode cX9_add 71 = .ok (.dup, 1) := by decide +kernel
theorem dX9_add_72 : decode cX9_add 72 = .ok (.getfield 37, 3) := by decide +kernel
theorem dX9_add_75 : decode cX9_add 75 = .ok (.iload_n 3, 1) := by decide +kernel
theorem dX9_add_76 : decode cX9_add 76 = .ok (.iload_n 1, 1) := by decide +kernel
theorem dX9_add_77 : decode cX9_add 77 = .ok (.isub, 1) := by decide +kernel
theorem dX9_add_78 : decode cX9_add 78 = .ok (.iadd, 1) := by decide +kernel
theorem dX9_add_79 : decode cX9_add 79 = .ok (.putfield 37, 3) := by decide +kernel
theorem dX9_add_82 : decode cX9_add 82 = .ok (.iload 5, 2) := by decide +kernel
theorem dX9_add_84 : decode cX9_add 84 = .ok (.ifCond .ne 8, 3) := by decide +kernel
theorem dX9_add_87 : decode cX9_add 87 = .ok (.iload 4, 2) := by decide +kernel
theorem dX9_add_89 : decode cX9_add 89 = .ok (.ifCond .eq 16, 3) := by decide +kernel
theorem dX9_add_92 : decode cX9_add 92 = .ok (.aload_n 0, 1) := by decide +kernel
theorem dX9_add_93 : decode cX9_add 93 = .ok (.dup, 1) := by decide +kernel
theorem dX9_add_94 : decode cX9_add 94 = .ok (.getfield 27, 3) := by decide +kernel
theorem dX9_add_97 : decode cX9_add 97 = .ok (.iload_n 1, 1) := by decide +kernel
theorem dX9_add_98 : decode cX9_add 98 = .ok (.iadd, 1) := by decide +kernel
theorem dX9_add_99 : decode cX9_add 99 = .ok (.putfield 27, 3) := by decide +kernel
theorem dX9_add_102 : decode cX9_add 102 = .ok (.goto 13, 3) := by decide +kernel
theorem dX9_add_105 : decode cX9_add 105 = .ok (.aload_n 0, 1) := by decide +kernel
theorem dX9_add_106 : decode cX9_add 106 = .ok (.getfield 18, 3) := by decide +kernel
theorem dX9_add_109 : decode cX9_add 109 = .ok (.iload_n 2, 1) := by decide +kernel
theorem dX9_add_110 : decode cX9_add 110 = .ok (.dup2, 1) := by decide +kernel
theorem dX9_add_111 : decode cX9_add 111 = .ok (.iaload, 1) := by decide +kernel
theorem dX9_add_112 : decode cX9_add 112 = .ok (.iconst 1, 1) := by decide +kernel
theorem dX9_add_113 : decode cX9_add 113 = .ok (.iadd, 1) := by decide +kernel
theorem dX9_add_114 : decode cX9_add 114 = .ok (.iastore, 1) := by decide +kernel
theorem dX9_add_115 : decode cX9_add 115 = .ok (.return_, 1) := by decide +kernel
theorem dX10_init_0 : decode cX10_init 0 = .ok (.aload_n 0, 1) := by decide +kernel
theorem dX10_init_1 : decode cX10_init 1 = .ok (.invokespecial 3, 3) := by decide +kernel
theorem dX10_init_4 : decode cX10_init 4 = .ok (.aload_n 0, 1) := by decide +kernel
theorem dX10_init_5 : decode cX10_init 5 = .ok (.new 9, 3) := by decide +kernel
theorem dX10_init_8 : decode cX10_init 8 = .ok (.dup, 1) := by decide +kernel
theorem dX10_init_9 : decode cX10_init 9 = .ok (.invokespecial 11, 3) := by decide +kernel
theorem dX10_init_12 : decode cX10_init 12 = .ok (.putfield 12, 3) := by decide +kernel
theorem dX10_init_15 : decode cX10_init 15 = .ok (.aload_n 0, 1) := by decide +kernel
theorem dX10_init_16 : decode cX10_init 16 = .ok (.new 16, 3) := by decide +kernel
theorem dX10_init_19 : decode cX10_init 19 = .ok (.dup, 1) := by decide +kernel
theorem dX10_init_20 : decode cX10_init 20 = .ok (.invokespecial 18, 3) := by decide +kernel
theorem dX10_init_23 : decode cX10_init 23 = .ok (.putfield 19, 3) := by decide +kernel
theorem dX10_init_26 : decode cX10_init 26 = .ok (.aload_n 0, 1) := by decide +kernel
theorem dX10_init_27 : decode cX10_init 27 = .ok (.new 23, 3) := by decide +kernel
theorem dX10_init_30 : decode cX10_init 30 = .ok (.dup, 1) := by decide +kernel
theorem dX10_init_31 : decode cX10_init 31 = .ok (.invokespecial 25, 3) := by decide +kernel
theorem dX10_init_34 : decode cX10_init 34 = .ok (.putfield 26, 3) := by decide +kernel
theorem dX10_init_37 : decode cX10_init 37 = .ok (.aload_n 0, 1) := by decide +kernel
theorem dX10_init_38 : decode cX10_init 38 = .ok (.new 30, 3) := by decide +kernel
theorem dX10_init_41 : decode cX10_init 41 = .ok (.dup, 1) := by decide +kernel
theorem dX10_init_42 : decode cX10_init 42 = .ok (.invokespecial 32, 3) := by decide +kernel
theorem dX10_init_45 : decode cX10_init 45 = .ok (.putfield 33, 3) := by decide +kernel
theorem dX10_init_48 : decode cX10_init 48 = .ok (.aload_n 0, 1) := by decide +kernel
theorem dX10_init_49 : decode cX10_init 49 = .ok (.new 37, 3) := by decide +kernel
theorem dX10_init_52 : decode cX10_init 52 = .ok (.dup, 1) := by decide +kernel
theorem dX10_init_53 : decode cX10_init 53 = .ok (.invokespecial 39, 3) := by decide +kernel
theorem dX10_init_56 : decode cX10_init 56 = .ok (.putfield 40, 3) := by decide +kernel
theorem dX10_init_59 : decode cX10_init 59 = .ok (.aload_n 0, 1) := by decide +kernel
theorem dX10_init_60 : decode cX10_init 60 = .ok (.bipush 9, 2) := by decide +kernel
theorem dX10_init_62 : decode cX10_init 62 = .ok (.anewarray 44, 3) := by decide +kernel
theorem dX10_init_65 : decode cX10_init 65 = .ok (.putfield 46, 3) := by decide +kernel
theorem dX10_init_68 : decode cX10_init 68 = .ok (.aload_n 0, 1) := by decide +kernel
theorem dX10_init_69 : decode cX10_init 69 = .ok (.new 50, 3) := by decide +kernel
theorem dX10_init_72 : decode cX10_init 72 = .ok (.dup, 1) := by decide +kernel
theorem dX10_init_73 : decode cX10_init 73 = .ok (.invokespecial 52, 3) := by decide +kernel
theorem dX10_init_76 : decode cX10_init 76 = .ok (.putfield 53, 3) := by decide +kernel
theorem dX10_init_79 : decode cX10_init 79 = .ok (.aload_n 0, 1) := by decide +kernel
theorem dX10_init_80 : decode cX10_init 80 = .ok (.new 50, 3) := by decide +kernel
theorem dX10_init_83 : decode cX10_init 83 = .ok (.dup, 1) := by decide +kernel
theorem dX10_init_84 : decode cX10_init 84 = .ok (.invokespecial 52, 3) := by decide +kernel
theorem dX10_init_87 : decode cX10_init 87 = .ok (.putfield 57, 3) := by decide +kernel
theorem dX10_init_90 : decode cX10_init 90 = .ok (.iconst 0, 1) := by decide +kernel
theorem dX10_init_91 : decode cX10_init 91 = .ok (.istore_n 1, 1) := by decide +kernel
theorem dX10_init_92 : decode cX10_init 92 = .ok (.iload_n 1, 1) := by decide +kernel
theorem dX10_init_93 : decode cX10_init 93 = .ok (.aload_n 0, 1) := by decide +kernel
theorem dX10_init_94 : decode cX10_init 94 = .ok (.getfield 46, 3) := by decide +kernel
theorem dX10_init_97 : decode cX10_init 97 = .ok (.arraylength, 1) := by decide +kernel
theorem dX10_init_98 : decode cX10_init 98 = .ok (.if_icmp .ge 22, 3) := by decide +kernel
theorem dX10_init_101 : decode cX10_init 101 = .ok (.aload_n 0, 1) := by decide +kernel
theorem dX10_init_102 : decode cX10_init 102 = .ok (.getfield 46, 3) := by decide +kernel
theorem dX10_init_105 : decode cX10_init 105 = .ok (.iload_n 1, 1) := by decide +kernel
theorem dX10_init_106 : decode cX10_init 106 = .ok (.new 44, 3) := by decide +kernel
theorem dX10_init_109 : decode cX10_init 109 = .ok (.dup, 1) := by decide +kernel
theorem dX10_init_110 : decode cX10_init 110 = .ok (.invokespecial 60, 3) := by decide +kernel
theorem dX10_init_113 : decode cX10_init 113 = .ok (.aastore, 1) := by decide +kernel
theorem dX10_init_114 : decode cX10_init 114 = .ok (.iinc 1 1, 3) := by decide +kernel
theorem dX10_init_117 : decode cX10_init 117 = .ok (.goto (-25), 3) := by decide +kernel
theorem dX10_init_120 : decode cX10_init 120 = .ok (.iconst 0, 1) := by decide +kernel
theorem dX10_init_121 : decode cX10_init 121 = .ok (.istore_n 1, 1) := by decide +kernel
theorem dX10_init_122 : decode cX10_init 122 = .ok (.iload_n 1, 1) := by decide +kernel
theorem dX10_init_123 : decode cX10_init 123 = .ok (.ldc 61, 2) := by decide +kernel
theorem dX10_init_125 : decode cX10_init 125 = .ok (.invokevirtual 63, 3) := by decide +kernel
theorem dX10_init_128 : decode cX10_init 128 = .ok (.if_icmp .ge 22, 3) := by decide +kernel
theorem dX10_init_131 : decode cX10_init 131 = .ok (.aload_n 0, 1) := by decide +kernel
theorem dX10_init_132 : decode cX10_init 132 = .ok (.getfield 12, 3) := by decide +kernel
theorem dX10_init_135 : decode cX10_init 135 = .ok (.ldc 61, 2) := by decide +kernel
theorem dX10_init_137 : decode cX10_init 137 = .ok (.iload_n 1, 1) := by decide +kernel
theorem dX10_init_138 : decode cX10_init 138 = .ok (.invokevirtual 69, 3) := by decide +kernel
theorem dX10_init_141 : decode cX10_init 141 = .ok (.invokevirtual 73, 3) := by decide +kernel
theorem dX10_init_144 : decode cX10_init 144 = .ok (.iinc 1 1, 3) := by decide +kernel
theorem dX10_init_147 : decode cX10_init 147 = .ok (.goto (-25), 3) := by decide +kernel
theorem dX10_init_150 : decode cX10_init 150 = .ok (.aload_n 0, 1) := by decide +kernel
theorem dX10_init_151 : decode cX10_init 151 = .ok (.invokevirtual 77, 3) := by decide +kernel
theorem dX10_init_154 : decode cX10_init 154 = .ok (.pop, 1) := by decide +kernel
theorem dX10_init_155 : decode cX10_init 155 = .ok (.aload_n 0, 1) := by decide +kernel
theorem dX10_init_156 : decode cX10_init 156 = .ok (.getfield 12, 3) := by decide +kernel
theorem dX10_init_159 : decode cX10_init 159 = .ok (.iconst 0, 1) := by decide +kernel
theorem dX10_init_160 : decode cX10_init 160 = .ok (.putfield 80, 3) := by decide +kernel
theorem dX10_init_163 : decode cX10_init 163 = .ok (.return_, 1) := by decide +kernel
theorem dX10_write_0 : decode cX10_write 0 = .ok (.iload_n 1, 1) := by decide +kernel
theorem dX10_write_1 : decode cX10_write 1 = .ok (.bipush 32, 2) := by decide +kernel
theorem dX10_write_3 : decode cX10_write 3 = .ok (.if_icmp .lt 9, 3) := by decide +kernel
theorem dX10_write_6 : decode cX10_write 6 = .ok (.iload_n 1, 1) := by decide +kernel
theorem dX10_write_7 : decode cX10_write 7 = .ok (.bipush 126, 2) := by decide +kernel
theorem dX10_write_9 : decode cX10_write 9 = .ok (.if_icmp .le 5, 3) := by decide +kernel
theorem dX10_write_12 : decode cX10_write 12 = .ok (.iconst (-1), 1) := by decide +kernel
theorem dX10_write_13 : decode cX10_write 13 = .ok (.ireturn, 1) := by decide +kernel
theorem dX10_write_14 : decode cX10_write 14 = .ok (.aload_n 0, 1) := by decide +kernel
theorem dX10_write_15 : decode cX10_write 15 = .ok (.getfield 12, 3) := by decide +kernel
theorem dX10_write_18 : decode cX10_write 18 = .ok (.getfield 80, 3) := by decide +kernel
theorem dX10_write_21 : decode cX10_write 21 = .ok (.sipush 200, 3) := by decide +kernel
theorem dX10_write_24 : decode cX10_write 24 = .ok (.if_icmp .lt 6, 3) := by decide +kernel
theorem dX10_write_27 : decode cX10_write 27 = .ok (.bipush (-3), 2) := by decide +kernel
theorem dX10_write_29 : decode cX10_write 29 = .ok (.ireturn, 1) := by decide +kernel
theorem dX10_write_30 : decode cX10_write 30 = .ok (.aload_n 0, 1) := by decide +kernel
theorem dX10_write_31 : decode cX10_write 31 = .ok (.getfield 12, 3) := by decide +kernel
theorem dX10_write_34 : decode cX10_write 34 = .ok (.iload_n 1, 1) := by decide +kernel
theorem dX10_write_35 : decode cX10_write 35 = .ok (.i2c, 1) := by decide +kernel
theorem dX10_write_36 : decode cX10_write 36 = .ok (.invokevirtual 73, 3) := by decide +kernel
theorem dX10_write_39 : decode cX10_write 39 = .ok (.aload_n 0, 1) := by decide +kernel
theorem dX10_write_40 : decode cX10_write 40 = .ok (.getfield 12, 3) := by decide +kernel
theorem dX10_write_43 : decode cX10_write 43 = .ok (.getfield 80, 3) := by decide +kernel
theorem dX10_write_46 : decode cX10_write 46 = .ok (.ireturn, 1) := by decide +kernel
theorem dX10_wipe_0 : decode cX10_wipe 0 = .ok (.aload_n 0, 1) := by decide +kernel
theorem dX10_wipe_1 : decode cX10_wipe 1 = .ok (.getfield 12, 3) := by decide +kernel
theorem dX10_wipe_4 : decode cX10_wipe 4 = .ok (.getfield 80, 3) := by decide +kernel
theorem dX10_wipe_7 : decode cX10_wipe 7 = .ok (.istore_n 1, 1) := by decide +kernel
theorem dX10_wipe_8 : decode cX10_wipe 8 = .ok (.aload_n 0, 1) := by decide +kernel
theorem dX10_wipe_9 : decode cX10_wipe 9 = .ok (.getfield 12, 3) := by decide +kernel
theorem dX10_wipe_12 : decode cX10_wipe 12 = .ok (.iconst 0, 1) := by decide +kernel
theorem dX10_wipe_13 : decode cX10_wipe 13 = .ok (.putfield 80, 3) := by decide +kernel
theorem dX10_wipe_16 : decode cX10_wipe 16 = .ok (.iload_n 1, 1) := by decide +kernel
theorem dX10_wipe_17 : decode cX10_wipe 17 = .ok (.ireturn, 1) := by decide +kernel
theorem dX10_fault_0 : decode cX10_fault 0 = .ok (.aload_n 0, 1) := by decide +kernel
theorem dX10_fault_1 : decode cX10_fault 1 = .ok (.getfield 12, 3) := by decide +kernel
theorem dX10_fault_4 : decode cX10_fault 4 = .ok (.aload_n 0, 1) := by decide +kernel
theorem dX10_fault_5 : decode cX10_fault 5 = .ok (.getfield 57, 3) := by decide +kernel
theorem dX10_fault_8 : decode cX10_fault 8 = .ok (.invokevirtual 83, 3) := by decide +kernel
theorem dX10_fault_11 : decode cX10_fault 11 = .ok (.ireturn, 1) := by decide +kernel
theorem dX10_lay_0 : decode cX10_lay 0 = .ok (.aload_n 0, 1) := by decide +kernel
theorem dX10_lay_1 : decode cX10_lay 1 = .ok (.invokevirtual 77, 3) := by decide +kernel
theorem dX10_lay_4 : decode cX10_lay 4 = .ok (.ireturn, 1) := by decide +kernel
theorem dX10_joint_0 : decode cX10_joint 0 = .ok (.iload_n 1, 1) := by decide +kernel
theorem dX10_joint_1 : decode cX10_joint 1 = .ok (.ifCond .lt 8, 3) := by decide +kernel
theorem dX10_joint_4 : decode cX10_joint 4 = .ok (.iload_n 1, 1) := by decide +kernel
theorem dX10_joint_5 : decode cX10_joint 5 = .ok (.iconst 2, 1) := by decide +kernel
theorem dX10_joint_6 : decode cX10_joint 6 = .ok (.if_icmp .le 5, 3) := by decide +kernel
theorem dX10_joint_9 : decode cX10_joint 9 = .ok (.iconst (-1), 1) := by decide +kernel
theorem dX10_joint_10 : decode cX10_joint 10 = .ok (.ireturn, 1) := by decide +kernel
theorem dX10_joint_11 : decode cX10_joint 11 = .ok (.iload_n 1, 1) := by decide +kernel
theorem dX10_joint_12 : decode cX10_joint 12 = .ok (.aload_n 0, 1) := by decide +kernel
theorem dX10_joint_13 : decode cX10_joint 13 = .ok (.getfield 26, 3) := by decide +kernel
theorem dX10_joint_16 : decode cX10_joint 16 = .ok (.getfield 87, 3) := by decide +kernel
theorem dX10_joint_19 : decode cX10_joint 19 = .ok (.if_icmp .ne 6, 3) := by decide +kernel
theorem dX10_joint_22 : decode cX10_joint 22 = .ok (.bipush (-2), 2) := by decide +kernel
theorem dX10_joint_24 : decode cX10_joint 24 = .ok (.ireturn, 1) := by decide +kernel
theorem dX10_joint_25 : decode cX10_joint 25 = .ok (.aload_n 0, 1) := by decide +kernel
theorem dX10_joint_26 : decode cX10_joint 26 = .ok (.invokevirtual 90, 3) := by decide +kernel
theorem dX10_joint_29 : decode cX10_joint 29 = .ok (.aload_n 0, 1) := by decide +kernel
theorem dX10_joint_30 : decode cX10_joint 30 = .ok (.getfield 26, 3) := by decide +kernel
theorem dX10_joint_33 : decode cX10_joint 33 = .ok (.getfield 87, 3) := by decide +kernel
theorem dX10_joint_36 : decode cX10_joint 36 = .ok (.istore_n 2, 1) := by decide +kernel
theorem dX10_joint_37 : decode cX10_joint 37 = .ok (.aload_n 0, 1) := by decide +kernel
theorem dX10_joint_38 : decode cX10_joint 38 = .ok (.getfield 26, 3) := by decide +kernel
theorem dX10_joint_41 : decode cX10_joint 41 = .ok (.iload_n 1, 1) := by decide +kernel
theorem dX10_joint_42 : decode cX10_joint 42 = .ok (.putfield 87, 3) := by decide +kernel
theorem dX10_joint_45 : decode cX10_joint 45 = .ok (.iload_n 2, 1) := by decide +kernel
theorem dX10_joint_46 : decode cX10_joint 46 = .ok (.ireturn, 1) := by decide +kernel
theorem dX10_line_0 : decode cX10_line 0 = .ok (.aload_n 0, 1) := by decide +kernel
theorem dX10_line_1 : decode cX10_line 1 = .ok (.iload_n 1, 1) := by decide +kernel
theorem dX10_line_2 : decode cX10_line 2 = .ok (.invokevirtual 93, 3) := by decide +kernel
theorem dX10_line_5 : decode cX10_line 5 = .ok (.ifCond .ne 5, 3) := by decide +kernel
theorem dX10_line_8 : decode cX10_line 8 = .ok (.iconst (-1), 1) := by decide +kernel
theorem dX10_line_9 : decode cX10_line 9 = .ok (.ireturn, 1) := by decide +kernel
theorem dX10_line_10 : decode cX10_line 10 = .ok (.iload_n 2, 1) := by decide +kernel
theorem dX10_line_11 : decode cX10_line 11 = .ok (.tableswitch 130 0 6 #[41, 54, 67, 82, 92, 110, 120], 41) := by decide +kernel
theorem dX10_line_52 : decode cX10_line 52 = .ok (.aload_n 0, 1) := by decide +kernel
theorem dX10_line_53 : decode cX10_line 53 = .ok (.getfield 53, 3) := by decide +kernel
theorem dX10_line_56 : decode cX10_line 56 = .ok (.getfield 97, 3) := by decide +kernel
theorem dX10_line_59 : decode cX10_line 59 = .ok (.iload_n 1, 1) := by decide +kernel
theorem dX10_line_60 : decode cX10_line 60 = .ok (.aaload, 1) := by decide +kernel
theorem dX10_line_61 : decode cX10_line 61 = .ok (.getfield 101, 3) := by decide +kernel
theorem dX10_line_64 : decode cX10_line 64 = .ok (.ireturn, 1) := by decide +kernel
theorem dX10_line_65 : decode cX10_line 65 = .ok (.aload_n 0, 1) := by decide +kernel
theorem dX10_line_66 : decode cX10_line 66 = .ok (.getfield 53, 3) := by decide +kernel
theorem dX10_line_69 : decode cX10_line 69 = .ok (.getfield 97, 3) := by decide +kernel
theorem dX10_line_72 : decode cX10_line 72 = .ok (.iload_n 1, 1) := by decide +kernel
theorem dX10_line_73 : decode cX10_line 73 = .ok (.aaload, 1) := by decide +kernel
theorem dX10_line_74 : decode cX10_line 74 = .ok (.getfield 106, 3) := by decide +kernel
theorem dX10_line_77 : decode cX10_line 77 = .ok (.ireturn, 1) := by decide +kernel
theorem dX10_line_78 : decode cX10_line 78 = .ok (.aload_n 0, 1) := by decide +kernel
theorem dX10_line_79 : decode cX10_line 79 = .ok (.getfield 53, 3) := by decide +kernel
theorem dX10_line_82 : decode cX10_line 82 = .ok (.getfield 97, 3) := by decide +kernel
theorem dX10_line_85 : decode cX10_line 85 = .ok (.iload_n 1, 1) := by decide +kernel
theorem dX10_line_86 : decode cX10_line 86 = .ok (.aaload, 1) := by decide +kernel
theorem dX10_line_87 : decode cX10_line 87 = .ok (.getfield 101, 3) := by decide +kernel
theorem dX10_line_90 : decode cX10_line 90 = .ok (.iconst 1, 1) := by decide +kernel
theorem dX10_line_91 : decode cX10_line 91 = .ok (.isub, 1) := by decide +kernel
theorem dX10_line_92 : decode cX10_line 92 = .ok (.ireturn, 1) := by decide +kernel
theorem dX10_line_93 : decode cX10_line 93 = .ok (.aload_n 0, 1) := by decide +kernel
theorem dX10_line_94 : decode cX10_line 94 = .ok (.getfield 26, 3) := by decide +kernel
theorem dX10_line_97 : decode cX10_line 97 = .ok (.getfield 109, 3) := by decide +kernel
theorem dX10_line_100 : decode cX10_line 100 = .ok (.iload_n 1, 1) := by decide +kernel
theorem dX10_line_101 : decode cX10_line 101 = .ok (.iaload, 1) := by decide +kernel
theorem dX10_line_102 : decode cX10_line 102 = .ok (.ireturn, 1) := by decide +kernel
theorem dX10_line_103 : decode cX10_line 103 = .ok (.aload_n 0, 1) := by decide +kernel
theorem dX10_line_104 : decode cX10_line 104 = .ok (.getfield 26, 3) := by decide +kernel
theorem dX10_line_107 : decode cX10_line 107 = .ok (.iload_n 1, 1) := by decide +kernel
theorem dX10_line_108 : decode cX10_line 108 = .ok (.aload_n 0, 1) := by decide +kernel
theorem dX10_line_109 : decode cX10_line 109 = .ok (.getfield 53, 3) := by decide +kernel
theorem dX10_line_112 : decode cX10_line 112 = .ok (.getfield 97, 3) := by decide +kernel
theorem dX10_line_115 : decode cX10_line 115 = .ok (.iload_n 1, 1) := by decide +kernel
theorem dX10_line_116 : decode cX10_line 116 = .ok (.aaload, 1) := by decide +kernel
theorem dX10_line_117 : decode cX10_line 117 = .ok (.invokevirtual 113, 3) := by decide +kernel
theorem dX10_line_120 : decode cX10_line 120 = .ok (.ireturn, 1) := by decide +kernel
theorem dX10_line_121 : decode cX10_line 121 = .ok (.aload_n 0, 1) := by decide +kernel
theorem dX10_line_122 : decode cX10_line 122 = .ok (.getfield 26, 3) := by decide +kernel
theorem dX10_line_125 : decode cX10_line 125 = .ok (.getfield 117, 3) := by decide +kernel
theorem dX10_line_128 : decode cX10_line 128 = .ok (.iload_n 1, 1) := by decide +kernel
theorem dX10_line_129 : decode cX10_line 129 = .ok (.iaload, 1) := by decide +kernel
theorem dX10_line_130 : decode cX10_line 130 = .ok (.ireturn, 1) := by decide +kernel
theorem dX10_line_131 : decode cX10_line 131 = .ok (.aload_n 0, 1) := by decide +kernel
theorem dX10_line_132 : decode cX10_line 132 = .ok (.getfield 26, 3) := by decide +kernel
theorem dX10_line_135 : decode cX10_line 135 = .ok (.getfield 120, 3) := by decide +kernel
theorem dX10_line_138 : decode cX10_line 138 = .ok (.iload_n 1, 1) := by decide +kernel
theorem dX10_line_139 : decode cX10_line 139 = .ok (.iaload, 1) := by decide +kernel
theorem dX10_line_140 : decode cX10_line 140 = .ok (.ireturn, 1) := by decide +kernel
theorem dX10_line_141 : decode cX10_line 141 = .ok (.iconst (-1), 1) := by decide +kernel
theorem dX10_line_142 : decode cX10_line 142 = .ok (.ireturn, 1) := by decide +kernel
theorem dX10_cell_0 : decode cX10_cell 0 = .ok (.aload_n 0, 1) := by decide +kernel
theorem dX10_cell_1 : decode cX10_cell 1 = .ok (.iload_n 1, 1) := by decide +kernel
theorem dX10_cell_2 : decode cX10_cell 2 = .ok (.invokevirtual 93, 3) := by decide +kernel
theorem dX10_cell_5 : decode cX10_cell 5 = .ok (.ifCond .eq 7, 3) := by decide +kernel
theorem dX10_cell_8 : decode cX10_cell 8 = .ok (.iload_n 2, 1) := by decide +kernel
theorem dX10_cell_9 : decode cX10_cell 9 = .ok (.ifCond .ge 5, 3) := by decide +kernel
theorem dX10_cell_12 : decode cX10_cell 12 = .ok (.iconst (-1), 1) := by decide +kernel
theorem dX10_cell_13 : decode cX10_cell 13 = .ok (.ireturn, 1) := by decide +kernel
theorem dX10_cell_14 : decode cX10_cell 14 = .ok (.iload_n 2, 1) := by decide +kernel
theorem dX10_cell_15 : decode cX10_cell 15 = .ok (.aload_n 0, 1) := by decide +kernel
theorem dX10_cell_16 : decode cX10_cell 16 = .ok (.getfield 53, 3) := by decide +kernel
theorem dX10_cell_19 : decode cX10_cell 19 = .ok (.getfield 97, 3) := by decide +kernel
theorem dX10_cell_22 : decode cX10_cell 22 = .ok (.iload_n 1, 1) := by decide +kernel
theorem dX10_cell_23 : decode cX10_cell 23 = .ok (.aaload, 1) := by decide +kernel
theorem dX10_cell_24 : decode cX10_cell 24 = .ok (.getfield 106, 3) := by decide +kernel
theorem dX10_cell_27 : decode cX10_cell 27 = .ok (.if_icmp .ge 20, 3) := by decide +kernel
theorem dX10_cell_30 : decode cX10_cell 30 = .ok (.aload_n 0, 1) := by decide +kernel
theorem dX10_cell_31 : decode cX10_cell 31 = .ok (.getfield 53, 3) := by decide +kernel
theorem dX10_cell_34 : decode cX10_cell 34 = .ok (.getfield 97, 3) := by decide +kernel
theorem dX10_cell_37 : decode cX10_cell 37 = .ok (.iload_n 1, 1) := by decide +kernel
theorem dX10_cell_38 : decode cX10_cell 38 = .ok (.aaload, 1) := by decide +kernel
theorem dX10_cell_39 : decode cX10_cell 39 = .ok (.getfield 123, 3) := by decide +kernel
theorem dX10_cell_42 : decode cX10_cell 42 = .ok (.iload_n 2, 1) := by decide +kernel
theorem dX10_cell_43 : decode cX10_cell 43 = .ok (.iaload, 1) := by decide +kernel
theorem dX10_cell_44 : decode cX10_cell 44 = .ok (.goto 5, 3) := by decide +kernel
theorem dX10_cell_47 : decode cX10_cell 47 = .ok (.bipush (-4), 2) := by decide +kernel
theorem dX10_cell_49 : decode cX10_cell 49 = .ok (.ireturn, 1) := by decide +kernel
theorem dX10_whose_0 : decode cX10_whose 0 = .ok (.iload_n 1, 1) := by decide +kernel
theorem dX10_whose_1 : decode cX10_whose 1 = .ok (.iload_n 2, 1) := by decide +kernel
theorem dX10_whose_2 : decode cX10_whose 2 = .ok (.invokestatic 126, 3) := by decide +kernel
theorem dX10_whose_5 : decode cX10_whose 5 = .ok (.ifCond .ne 5, 3) := by decide +kernel
theorem dX10_whose_8 : decode cX10_whose 8 = .ok (.iconst (-1), 1) := by decide +kernel
theorem dX10_whose_9 : decode cX10_whose 9 = .ok (.ireturn, 1) := by decide +kernel
theorem dX10_whose_10 : decode cX10_whose 10 = .ok (.aload_n 0, 1) := by decide +kernel
theorem dX10_whose_11 : decode cX10_whose 11 = .ok (.getfield 26, 3) := by decide +kernel
theorem dX10_whose_14 : decode cX10_whose 14 = .ok (.getfield 130, 3) := by decide +kernel
theorem dX10_whose_17 : decode cX10_whose 17 = .ok (.bipush 20, 2) := by decide +kernel
theorem dX10_whose_19 : decode cX10_whose 19 = .ok (.iload_n 2, 1) := by decide +kernel
theorem dX10_whose_20 : decode cX10_whose 20 = .ok (.imul, 1) := by decide +kernel
theorem dX10_whose_21 : decode cX10_whose 21 = .ok (.iload_n 1, 1) := by decide +kernel
theorem dX10_whose_22 : decode cX10_whose 22 = .ok (.iadd, 1) := by decide +kernel
theorem dX10_whose_23 : decode cX10_whose 23 = .ok (.iaload, 1) := by decide +kernel
theorem dX10_whose_24 : decode cX10_whose 24 = .ok (.ireturn, 1) := by decide +kernel
theorem dX10_piece_0 : decode cX10_piece 0 = .ok (.aload_n 0, 1) := by decide +kernel
theorem dX10_piece_1 : decode cX10_piece 1 = .ok (.iload_n 1, 1) := by decide +kernel
theorem dX10_piece_2 : decode cX10_piece 2 = .ok (.invokevirtual 93, 3) := by decide +kernel
theorem dX10_piece_5 : decode cX10_piece 5 = .ok (.ifCond .eq 8, 3) := by decide +kernel
theorem dX10_piece_8 : decode cX10_piece 8 = .ok (.iload_n 2, 1) := by decide +kernel
theorem dX10_piece_9 : decode cX10_piece 9 = .ok (.iconst (-1), 1) := by decide +kernel
theorem dX10_piece_10 : decode cX10_piece 10 = .ok (.if_icmp .ge 5, 3) := by decide +kernel
theorem dX10_piece_13 : decode cX10_piece 13 = .ok (.iconst (-1), 1) := by decide +kernel
theorem dX10_piece_14 : decode cX10_piece 14 = .ok (.ireturn, 1) := by decide +kernel
theorem dX10_piece_15 : decode cX10_piece 15 = .ok (.aload_n 0, 1) := by decide +kernel
theorem dX10_piece_16 : decode cX10_piece 16 = .ok (.getfield 26, 3) := by decide +kernel
theorem dX10_piece_19 : decode cX10_piece 19 = .ok (.iload_n 1, 1) := by decide +kernel
theorem dX10_piece_20 : decode cX10_piece 20 = .ok (.invokevirtual 133, 3) := by decide +kernel
theorem dX10_piece_23 : decode cX10_piece 23 = .ok (.ifCond .eq 6, 3) := by decide +kernel
theorem dX10_piece_26 : decode cX10_piece 26 = .ok (.bipush (-2), 2) := by decide +kernel
theorem dX10_piece_28 : decode cX10_piece 28 = .ok (.ireturn, 1) := by decide +kernel
theorem dX10_piece_29 : decode cX10_piece 29 = .ok (.aload_n 0, 1) := by decide +kernel
theorem dX10_piece_30 : decode cX10_piece 30 = .ok (.getfield 19, 3) := by decide +kernel
theorem dX10_piece_33 : decode cX10_piece 33 = .ok (.getfield 136, 3) := by decide +kernel
theorem dX10_piece_36 : decode cX10_piece 36 = .ok (.astore_n 3, 1) := by decide +kernel
theorem dX10_piece_37 : decode cX10_piece 37 = .ok (.aload_n 3, 1) := by decide +kernel
theorem dX10_piece_38 : decode cX10_piece 38 = .ok (.aload_n 0, 1) := by decide +kernel
theorem dX10_piece_39 : decode cX10_piece 39 = .ok (.getfield 53, 3) := by decide +kernel
theorem dX10_piece_42 : decode cX10_piece 42 = .ok (.getfield 97, 3) := by decide +kernel
theorem dX10_piece_45 : decode cX10_piece 45 = .ok (.iload_n 1, 1) := by decide +kernel
theorem dX10_piece_46 : decode cX10_piece 46 = .ok (.aaload, 1) := by decide +kernel
theorem dX10_piece_47 : decode cX10_piece 47 = .ok (.aload_n 0, 1) := by decide +kernel
theorem dX10_piece_48 : decode cX10_piece 48 = .ok (.getfield 26, 3) := by decide +kernel
theorem dX10_piece_51 : decode cX10_piece 51 = .ok (.getfield 130, 3) := by decide +kernel
theorem dX10_piece_54 : decode cX10_piece 54 = .ok (.invokevirtual 140, 3) := by decide +kernel
theorem dX10_piece_57 : decode cX10_piece 57 = .ok (.iload_n 2, 1) := by decide +kernel
theorem dX10_piece_58 : decode cX10_piece 58 = .ok (.iconst (-1), 1) := by decide +kernel
theorem dX10_piece_59 : decode cX10_piece 59 = .ok (.if_icmp .ne 8, 3) := by decide +kernel
theorem dX10_piece_62 : decode cX10_piece 62 = .ok (.aload_n 3, 1) := by decide +kernel
theorem dX10_piece_63 : decode cX10_piece 63 = .ok (.getfield 146, 3) := by decide +kernel
theorem dX10_piece_66 : decode cX10_piece 66 = .ok (.ireturn, 1) := by decide +kernel
theorem dX10_piece_67 : decode cX10_piece 67 = .ok (.iload_n 2, 1) := by decide +kernel
theorem dX10_piece_68 : decode cX10_piece 68 = .ok (.aload_n 3, 1) := by decide +kernel
theorem dX10_piece_69 : decode cX10_piece 69 = .ok (.getfield 146, 3) := by decide +kernel
theorem dX10_piece_72 : decode cX10_piece 72 = .ok (.if_icmp .ge 12, 3) := by decide +kernel
theorem dX10_piece_75 : decode cX10_piece 75 = .ok (.aload_n 3, 1) := by decide +kernel
theorem dX10_piece_76 : decode cX10_piece 76 = .ok (.getfield 149, 3) := by decide +kernel
theorem dX10_piece_79 : decode cX10_piece 79 = .ok (.iload_n 2, 1) := by decide +kernel
theorem dX10_piece_80 : decode cX10_piece 80 = .ok (.iaload, 1) := by decide +kernel
theorem dX10_piece_81 : decode cX10_piece 81 = .ok (.goto 5, 3) := by decide +kernel
theorem dX10_piece_84 : decode cX10_piece 84 = .ok (.bipush (-4), 2) := by decide +kernel
theorem dX10_piece_86 : decode cX10_piece 86 = .ok (.ireturn, 1) := by decide +kernel
theorem dX10_way_0 : decode cX10_way 0 = .ok (.aload_n 0, 1) := by decide +kernel
theorem dX10_way_1 : decode cX10_way 1 = .ok (.iload_n 1, 1) := by decide +kernel
theorem dX10_way_2 : decode cX10_way 2 = .ok (.invokevirtual 93, 3) := by decide +kernel
theorem dX10_way_5 : decode cX10_way 5 = .ok (.ifCond .eq 16, 3) := by decide +kernel
theorem dX10_way_8 : decode cX10_way 8 = .ok (.iload_n 2, 1) := by decide +kernel
theorem dX10_way_9 : decode cX10_way 9 = .ok (.invokestatic 151, 3) := by decide +kernel
theorem dX10_way_12 : decode cX10_way 12 = .ok (.ifCond .eq 9, 3) := by decide +kernel
theorem dX10_way_15 : decode cX10_way 15 = .ok (.iload_n 3, 1) := by decide +kernel
theorem dX10_way_16 : decode cX10_way 16 = .ok (.bipush (-2), 2) := by decide +kernel
theorem dX10_way_18 : decode cX10_way 18 = .ok (.if_icmp .ge 5, 3) := by decide +kernel
theorem dX10_way_21 : decode cX10_way 21 = .ok (.iconst (-1), 1) := by decide +kernel
theorem dX10_way_22 : decode cX10_way 22 = .ok (.ireturn, 1) := by decide +kernel
theorem dX10_way_23 : decode cX10_way 23 = .ok (.aload_n 0, 1) := by decide +kernel
theorem dX10_way_24 : decode cX10_way 24 = .ok (.getfield 26, 3) := by decide +kernel
theorem dX10_way_27 : decode cX10_way 27 = .ok (.iload_n 1, 1) := by decide +kernel
theorem dX10_way_28 : decode cX10_way 28 = .ok (.invokevirtual 133, 3) := by decide +kernel
theorem dX10_way_31 : decode cX10_way 31 = .ok (.ifCond .eq 6, 3) := by decide +kernel
theorem dX10_way_34 : decode cX10_way 34 = .ok (.bipush (-2), 2) := by decide +kernel
theorem dX10_way_36 : decode cX10_way 36 = .ok (.ireturn, 1) := by decide +kernel
theorem dX10_way_37 : decode cX10_way 37 = .ok (.aload_n 0, 1) := by decide +kernel
theorem dX10_way_38 : decode cX10_way 38 = .ok (.iload_n 1, 1) := by decide +kernel
theorem dX10_way_39 : decode cX10_way 39 = .ok (.iload_n 2, 1) := by decide +kernel
theorem dX10_way_40 : decode cX10_way 40 = .ok (.invokevirtual 154, 3) := by decide +kernel
theorem dX10_way_43 : decode cX10_way 43 = .ok (.astore 4, 2) := by decide +kernel
theorem dX10_way_45 : decode cX10_way 45 = .ok (.aload 4, 2) := by decide +kernel
theorem dX10_way_47 : decode cX10_way 47 = .ok (.getfield 158, 3) := by decide +kernel
theorem dX10_way_50 : decode cX10_way 50 = .ok (.ifCond .ne 6, 3) := by decide +kernel
theorem dX10_way_53 : decode cX10_way 53 = .ok (.bipush (-4), 2) := by decide +kernel
theorem dX10_way_55 : decode cX10_way 55 = .ok (.ireturn, 1) := by decide +kernel
theorem dX10_way_56 : decode cX10_way 56 = .ok (.iload_n 3, 1) := by decide +kernel
theorem dX10_way_57 : decode cX10_way 57 = .ok (.iconst (-1), 1) := by decide +kernel
theorem dX10_way_58 : decode cX10_way 58 = .ok (.if_icmp .ne 9, 3) := by decide +kernel
theorem dX10_way_61 : decode cX10_way 61 = .ok (.aload 4, 2) := by decide +kernel
theorem dX10_way_63 : decode cX10_way 63 = .ok (.getfield 162, 3) := by decide +kernel
theorem dX10_way_66 : decode cX10_way 66 = .ok (.ireturn, 1) := by decide +kernel
theorem dX10_way_67 : decode cX10_way 67 = .ok (.iload_n 3, 1) := by decide +kernel
theorem dX10_way_68 : decode cX10_way 68 = .ok (.bipush (-2), 2) := by decide +kernel
theorem dX10_way_70 : decode cX10_way 70 = .ok (.if_icmp .ne 9, 3) := by decide +kernel
theorem dX10_way_73 : decode cX10_way 73 = .ok (.aload 4, 2) := by decide +kernel
theorem dX10_way_75 : decode cX10_way 75 = .ok (.getfield 164, 3) := by decide +kernel
theorem dX10_way_78 : decode cX10_way 78 = .ok (.ireturn, 1) := by decide +kernel
theorem dX10_way_79 : decode cX10_way 79 = .ok (.iload_n 3, 1) := by decide +kernel
theorem dX10_way_80 : decode cX10_way 80 = .ok (.aload 4, 2) := by decide +kernel
theorem dX10_way_82 : decode cX10_way 82 = .ok (.getfield 164, 3) := by decide +kernel
theorem dX10_way_85 : decode cX10_way 85 = .ok (.if_icmp .ge 13, 3) := by decide +kernel
theorem dX10_way_88 : decode cX10_way 88 = .ok (.aload 4, 2) := by decide +kernel
theorem dX10_way_90 : decode cX10_way 90 = .ok (.getfield 165, 3) := by decide +kernel
theorem dX10_way_93 : decode cX10_way 93 = .ok (.iload_n 3, 1) := by decide +kernel
theorem dX10_way_94 : decode cX10_way 94 = .ok (.iaload, 1) := by decide +kernel
