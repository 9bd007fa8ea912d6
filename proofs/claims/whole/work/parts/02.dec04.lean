theorem dX10_way_95 : decode cX10_way 95 = .ok (.goto 5, 3) := by decide +kernel
theorem dX10_way_98 : decode cX10_way 98 = .ok (.bipush (-4), 2) := by decide +kernel
theorem dX10_way_100 : decode cX10_way 100 = .ok (.ireturn, 1) := by decide +kernel
theorem dX10_best_0 : decode cX10_best 0 = .ok (.aload_n 0, 1) := by decide +kernel
theorem dX10_best_1 : decode cX10_best 1 = .ok (.iload_n 1, 1) := by decide +kernel
theorem dX10_best_2 : decode cX10_best 2 = .ok (.invokevirtual 93, 3) := by decide +kernel
theorem dX10_best_5 : decode cX10_best 5 = .ok (.ifCond .ne 5, 3) := by decide +kernel
theorem dX10_best_8 : decode cX10_best 8 = .ok (.iconst (-1), 1) := by decide +kernel
theorem dX10_best_9 : decode cX10_best 9 = .ok (.ireturn, 1) := by decide +kernel
theorem dX10_best_10 : decode cX10_best 10 = .ok (.aload_n 0, 1) := by decide +kernel
theorem dX10_best_11 : decode cX10_best 11 = .ok (.getfield 26, 3) := by decide +kernel
theorem dX10_best_14 : decode cX10_best 14 = .ok (.iload_n 1, 1) := by decide +kernel
theorem dX10_best_15 : decode cX10_best 15 = .ok (.invokevirtual 133, 3) := by decide +kernel
theorem dX10_best_18 : decode cX10_best 18 = .ok (.ifCond .eq 6, 3) := by decide +kernel
theorem dX10_best_21 : decode cX10_best 21 = .ok (.bipush (-2), 2) := by decide +kernel
theorem dX10_best_23 : decode cX10_best 23 = .ok (.ireturn, 1) := by decide +kernel
theorem dX10_best_24 : decode cX10_best 24 = .ok (.bipush (-4), 2) := by decide +kernel
theorem dX10_best_26 : decode cX10_best 26 = .ok (.istore_n 2, 1) := by decide +kernel
theorem dX10_best_27 : decode cX10_best 27 = .ok (.iconst 0, 1) := by decide +kernel
theorem dX10_best_28 : decode cX10_best 28 = .ok (.istore_n 3, 1) := by decide +kernel
theorem dX10_best_29 : decode cX10_best 29 = .ok (.iconst 0, 1) := by decide +kernel
theorem dX10_best_30 : decode cX10_best 30 = .ok (.istore 4, 2) := by decide +kernel
theorem dX10_best_32 : decode cX10_best 32 = .ok (.iload 4, 2) := by decide +kernel
theorem dX10_best_34 : decode cX10_best 34 = .ok (.iconst 3, 1) := by decide +kernel
theorem dX10_best_35 : decode cX10_best 35 = .ok (.if_icmp .ge 50, 3) := by decide +kernel
theorem dX10_best_38 : decode cX10_best 38 = .ok (.aload_n 0, 1) := by decide +kernel
theorem dX10_best_39 : decode cX10_best 39 = .ok (.iload_n 1, 1) := by decide +kernel
theorem dX10_best_40 : decode cX10_best 40 = .ok (.iload 4, 2) := by decide +kernel
theorem dX10_best_42 : decode cX10_best 42 = .ok (.invokevirtual 154, 3) := by decide +kernel
theorem dX10_best_45 : decode cX10_best 45 = .ok (.astore 5, 2) := by decide +kernel
theorem dX10_best_47 : decode cX10_best 47 = .ok (.aload 5, 2) := by decide +kernel
theorem dX10_best_49 : decode cX10_best 49 = .ok (.getfield 158, 3) := by decide +kernel
theorem dX10_best_52 : decode cX10_best 52 = .ok (.ifCond .eq 27, 3) := by decide +kernel
theorem dX10_best_55 : decode cX10_best 55 = .ok (.iload_n 2, 1) := by decide +kernel
theorem dX10_best_56 : decode cX10_best 56 = .ok (.bipush (-4), 2) := by decide +kernel
theorem dX10_best_58 : decode cX10_best 58 = .ok (.if_icmp .eq 12, 3) := by decide +kernel
theorem dX10_best_61 : decode cX10_best 61 = .ok (.aload 5, 2) := by decide +kernel
theorem dX10_best_63 : decode cX10_best 63 = .ok (.getfield 162, 3) := by decide +kernel
theorem dX10_best_66 : decode cX10_best 66 = .ok (.iload_n 3, 1) := by decide +kernel
theorem dX10_best_67 : decode cX10_best 67 = .ok (.if_icmp .ge 12, 3) := by decide +kernel
theorem dX10_best_70 : decode cX10_best 70 = .ok (.iload 4, 2) := by decide +kernel
theorem dX10_best_72 : decode cX10_best 72 = .ok (.istore_n 2, 1) := by decide +kernel
theorem dX10_best_73 : decode cX10_best 73 = .ok (.aload 5, 2) := by decide +kernel
theorem dX10_best_75 : decode cX10_best 75 = .ok (.getfield 162, 3) := by decide +kernel
theorem dX10_best_78 : decode cX10_best 78 = .ok (.istore_n 3, 1) := by decide +kernel
theorem dX10_best_79 : decode cX10_best 79 = .ok (.iinc 4 1, 3) := by decide +kernel
theorem dX10_best_82 : decode cX10_best 82 = .ok (.goto (-50), 3) := by decide +kernel
theorem dX10_best_85 : decode cX10_best 85 = .ok (.iload_n 2, 1) := by decide +kernel
theorem dX10_best_86 : decode cX10_best 86 = .ok (.ireturn, 1) := by decide +kernel
theorem dX10_cover_0 : decode cX10_cover 0 = .ok (.aload_n 0, 1) := by decide +kernel
theorem dX10_cover_1 : decode cX10_cover 1 = .ok (.iload_n 1, 1) := by decide +kernel
theorem dX10_cover_2 : decode cX10_cover 2 = .ok (.invokevirtual 93, 3) := by decide +kernel
theorem dX10_cover_5 : decode cX10_cover 5 = .ok (.ifCond .eq 10, 3) := by decide +kernel
theorem dX10_cover_8 : decode cX10_cover 8 = .ok (.iload_n 2, 1) := by decide +kernel
theorem dX10_cover_9 : decode cX10_cover 9 = .ok (.invokestatic 151, 3) := by decide +kernel
theorem dX10_cover_12 : decode cX10_cover 12 = .ok (.ifCond .ne 5, 3) := by decide +kernel
theorem dX10_cover_15 : decode cX10_cover 15 = .ok (.iconst (-1), 1) := by decide +kernel
theorem dX10_cover_16 : decode cX10_cover 16 = .ok (.ireturn, 1) := by decide +kernel
theorem dX10_cover_17 : decode cX10_cover 17 = .ok (.aload_n 0, 1) := by decide +kernel
theorem dX10_cover_18 : decode cX10_cover 18 = .ok (.getfield 26, 3) := by decide +kernel
theorem dX10_cover_21 : decode cX10_cover 21 = .ok (.iload_n 1, 1) := by decide +kernel
theorem dX10_cover_22 : decode cX10_cover 22 = .ok (.invokevirtual 133, 3) := by decide +kernel
theorem dX10_cover_25 : decode cX10_cover 25 = .ok (.ifCond .eq 6, 3) := by decide +kernel
theorem dX10_cover_28 : decode cX10_cover 28 = .ok (.bipush (-2), 2) := by decide +kernel
theorem dX10_cover_30 : decode cX10_cover 30 = .ok (.ireturn, 1) := by decide +kernel
theorem dX10_cover_31 : decode cX10_cover 31 = .ok (.aload_n 0, 1) := by decide +kernel
theorem dX10_cover_32 : decode cX10_cover 32 = .ok (.iload_n 1, 1) := by decide +kernel
theorem dX10_cover_33 : decode cX10_cover 33 = .ok (.iload_n 2, 1) := by decide +kernel
theorem dX10_cover_34 : decode cX10_cover 34 = .ok (.invokevirtual 154, 3) := by decide +kernel
theorem dX10_cover_37 : decode cX10_cover 37 = .ok (.astore_n 3, 1) := by decide +kernel
theorem dX10_cover_38 : decode cX10_cover 38 = .ok (.aload_n 3, 1) := by decide +kernel
theorem dX10_cover_39 : decode cX10_cover 39 = .ok (.getfield 158, 3) := by decide +kernel
theorem dX10_cover_42 : decode cX10_cover 42 = .ok (.ifCond .ne 6, 3) := by decide +kernel
theorem dX10_cover_45 : decode cX10_cover 45 = .ok (.bipush (-4), 2) := by decide +kernel
theorem dX10_cover_47 : decode cX10_cover 47 = .ok (.ireturn, 1) := by decide +kernel
theorem dX10_cover_48 : decode cX10_cover 48 = .ok (.aload_n 0, 1) := by decide +kernel
theorem dX10_cover_49 : decode cX10_cover 49 = .ok (.invokevirtual 90, 3) := by decide +kernel
theorem dX10_cover_52 : decode cX10_cover 52 = .ok (.aload_n 0, 1) := by decide +kernel
theorem dX10_cover_53 : decode cX10_cover 53 = .ok (.getfield 26, 3) := by decide +kernel
theorem dX10_cover_56 : decode cX10_cover 56 = .ok (.iload_n 1, 1) := by decide +kernel
theorem dX10_cover_57 : decode cX10_cover 57 = .ok (.aload_n 0, 1) := by decide +kernel
theorem dX10_cover_58 : decode cX10_cover 58 = .ok (.getfield 53, 3) := by decide +kernel
theorem dX10_cover_61 : decode cX10_cover 61 = .ok (.getfield 97, 3) := by decide +kernel
theorem dX10_cover_64 : decode cX10_cover 64 = .ok (.iload_n 1, 1) := by decide +kernel
theorem dX10_cover_65 : decode cX10_cover 65 = .ok (.aaload, 1) := by decide +kernel
theorem dX10_cover_66 : decode cX10_cover 66 = .ok (.iload_n 2, 1) := by decide +kernel
theorem dX10_cover_67 : decode cX10_cover 67 = .ok (.aload_n 3, 1) := by decide +kernel
theorem dX10_cover_68 : decode cX10_cover 68 = .ok (.invokevirtual 166, 3) := by decide +kernel
theorem dX10_cover_71 : decode cX10_cover 71 = .ok (.aload_n 3, 1) := by decide +kernel
theorem dX10_cover_72 : decode cX10_cover 72 = .ok (.getfield 162, 3) := by decide +kernel
theorem dX10_cover_75 : decode cX10_cover 75 = .ok (.ireturn, 1) := by decide +kernel
theorem dX10_takeUp_0 : decode cX10_takeUp 0 = .ok (.aload_n 0, 1) := by decide +kernel
theorem dX10_takeUp_1 : decode cX10_takeUp 1 = .ok (.iload_n 1, 1) := by decide +kernel
theorem dX10_takeUp_2 : decode cX10_takeUp 2 = .ok (.invokevirtual 93, 3) := by decide +kernel
theorem dX10_takeUp_5 : decode cX10_takeUp 5 = .ok (.ifCond .ne 5, 3) := by decide +kernel
theorem dX10_takeUp_8 : decode cX10_takeUp 8 = .ok (.iconst (-1), 1) := by decide +kernel
theorem dX10_takeUp_9 : decode cX10_takeUp 9 = .ok (.ireturn, 1) := by decide +kernel
theorem dX10_takeUp_10 : decode cX10_takeUp 10 = .ok (.aload_n 0, 1) := by decide +kernel
theorem dX10_takeUp_11 : decode cX10_takeUp 11 = .ok (.getfield 26, 3) := by decide +kernel
theorem dX10_takeUp_14 : decode cX10_takeUp 14 = .ok (.iload_n 1, 1) := by decide +kernel
theorem dX10_takeUp_15 : decode cX10_takeUp 15 = .ok (.invokevirtual 133, 3) := by decide +kernel
theorem dX10_takeUp_18 : decode cX10_takeUp 18 = .ok (.ifCond .ne 6, 3) := by decide +kernel
theorem dX10_takeUp_21 : decode cX10_takeUp 21 = .ok (.bipush (-2), 2) := by decide +kernel
theorem dX10_takeUp_23 : decode cX10_takeUp 23 = .ok (.ireturn, 1) := by decide +kernel
theorem dX10_takeUp_24 : decode cX10_takeUp 24 = .ok (.aload_n 0, 1) := by decide +kernel
theorem dX10_takeUp_25 : decode cX10_takeUp 25 = .ok (.invokevirtual 90, 3) := by decide +kernel
theorem dX10_takeUp_28 : decode cX10_takeUp 28 = .ok (.aload_n 0, 1) := by decide +kernel
theorem dX10_takeUp_29 : decode cX10_takeUp 29 = .ok (.getfield 26, 3) := by decide +kernel
theorem dX10_takeUp_32 : decode cX10_takeUp 32 = .ok (.iload_n 1, 1) := by decide +kernel
theorem dX10_takeUp_33 : decode cX10_takeUp 33 = .ok (.aload_n 0, 1) := by decide +kernel
theorem dX10_takeUp_34 : decode cX10_takeUp 34 = .ok (.getfield 53, 3) := by decide +kernel
theorem dX10_takeUp_37 : decode cX10_takeUp 37 = .ok (.getfield 97, 3) := by decide +kernel
theorem dX10_takeUp_40 : decode cX10_takeUp 40 = .ok (.iload_n 1, 1) := by decide +kernel
theorem dX10_takeUp_41 : decode cX10_takeUp 41 = .ok (.aaload, 1) := by decide +kernel
theorem dX10_takeUp_42 : decode cX10_takeUp 42 = .ok (.aload_n 0, 1) := by decide +kernel
theorem dX10_takeUp_43 : decode cX10_takeUp 43 = .ok (.getfield 53, 3) := by decide +kernel
theorem dX10_takeUp_46 : decode cX10_takeUp 46 = .ok (.getfield 170, 3) := by decide +kernel
theorem dX10_takeUp_49 : decode cX10_takeUp 49 = .ok (.invokevirtual 173, 3) := by decide +kernel
theorem dX10_takeUp_52 : decode cX10_takeUp 52 = .ok (.ireturn, 1) := by decide +kernel
theorem dX10_order_0 : decode cX10_order 0 = .ok (.iload_n 1, 1) := by decide +kernel
theorem dX10_order_1 : decode cX10_order 1 = .ok (.invokestatic 151, 3) := by decide +kernel
theorem dX10_order_4 : decode cX10_order 4 = .ok (.ifCond .eq 29, 3) := by decide +kernel
theorem dX10_order_7 : decode cX10_order 7 = .ok (.iload_n 2, 1) := by decide +kernel
theorem dX10_order_8 : decode cX10_order 8 = .ok (.invokestatic 151, 3) := by decide +kernel
theorem dX10_order_11 : decode cX10_order 11 = .ok (.ifCond .eq 22, 3) := by decide +kernel
theorem dX10_order_14 : decode cX10_order 14 = .ok (.iload_n 3, 1) := by decide +kernel
theorem dX10_order_15 : decode cX10_order 15 = .ok (.invokestatic 151, 3) := by decide +kernel
theorem dX10_order_18 : decode cX10_order 18 = .ok (.ifCond .eq 15, 3) := by decide +kernel
theorem dX10_order_21 : decode cX10_order 21 = .ok (.iload 4, 2) := by decide +kernel
theorem dX10_order_23 : decode cX10_order 23 = .ok (.iconst (-1), 1) := by decide +kernel
theorem dX10_order_24 : decode cX10_order 24 = .ok (.if_icmp .lt 9, 3) := by decide +kernel
theorem dX10_order_27 : decode cX10_order 27 = .ok (.iload 4, 2) := by decide +kernel
theorem dX10_order_29 : decode cX10_order 29 = .ok (.iconst 3, 1) := by decide +kernel
theorem dX10_order_30 : decode cX10_order 30 = .ok (.if_icmp .lt 5, 3) := by decide +kernel
theorem dX10_order_33 : decode cX10_order 33 = .ok (.iconst (-1), 1) := by decide +kernel
theorem dX10_order_34 : decode cX10_order 34 = .ok (.ireturn, 1) := by decide +kernel
theorem dX10_order_35 : decode cX10_order 35 = .ok (.aload_n 0, 1) := by decide +kernel
theorem dX10_order_36 : decode cX10_order 36 = .ok (.getfield 40, 3) := by decide +kernel
theorem dX10_order_39 : decode cX10_order 39 = .ok (.iload_n 1, 1) := by decide +kernel
theorem dX10_order_40 : decode cX10_order 40 = .ok (.iload_n 2, 1) := by decide +kernel
theorem dX10_order_41 : decode cX10_order 41 = .ok (.iload_n 3, 1) := by decide +kernel
theorem dX10_order_42 : decode cX10_order 42 = .ok (.invokevirtual 177, 3) := by decide +kernel
theorem dX10_order_45 : decode cX10_order 45 = .ok (.ifCond .ne 23, 3) := by decide +kernel
theorem dX10_order_48 : decode cX10_order 48 = .ok (.aload_n 0, 1) := by decide +kernel
theorem dX10_order_49 : decode cX10_order 49 = .ok (.getfield 40, 3) := by decide +kernel
theorem dX10_order_52 : decode cX10_order 52 = .ok (.iload_n 1, 1) := by decide +kernel
theorem dX10_order_53 : decode cX10_order 53 = .ok (.iload_n 2, 1) := by decide +kernel
theorem dX10_order_54 : decode cX10_order 54 = .ok (.iload_n 3, 1) := by decide +kernel
theorem dX10_order_55 : decode cX10_order 55 = .ok (.invokevirtual 181, 3) := by decide +kernel
theorem dX10_order_58 : decode cX10_order 58 = .ok (.aload_n 0, 1) := by decide +kernel
theorem dX10_order_59 : decode cX10_order 59 = .ok (.iconst 0, 1) := by decide +kernel
theorem dX10_order_60 : decode cX10_order 60 = .ok (.aload_n 0, 1) := by decide +kernel
theorem dX10_order_61 : decode cX10_order 61 = .ok (.getfield 26, 3) := by decide +kernel
theorem dX10_order_64 : decode cX10_order 64 = .ok (.iconst 0, 1) := by decide +kernel
theorem dX10_order_65 : decode cX10_order 65 = .ok (.invokevirtual 185, 3) := by decide +kernel
theorem dX10_order_68 : decode cX10_order 68 = .ok (.aload_n 0, 1) := by decide +kernel
theorem dX10_order_69 : decode cX10_order 69 = .ok (.getfield 40, 3) := by decide +kernel
theorem dX10_order_72 : decode cX10_order 72 = .ok (.getfield 189, 3) := by decide +kernel
theorem dX10_order_75 : decode cX10_order 75 = .ok (.ifCond .ne 6, 3) := by decide +kernel
theorem dX10_order_78 : decode cX10_order 78 = .ok (.bipush (-4), 2) := by decide +kernel
theorem dX10_order_80 : decode cX10_order 80 = .ok (.ireturn, 1) := by decide +kernel
theorem dX10_order_81 : decode cX10_order 81 = .ok (.iload 4, 2) := by decide +kernel
theorem dX10_order_83 : decode cX10_order 83 = .ok (.iconst (-1), 1) := by decide +kernel
theorem dX10_order_84 : decode cX10_order 84 = .ok (.if_icmp .ne 11, 3) := by decide +kernel
theorem dX10_order_87 : decode cX10_order 87 = .ok (.aload_n 0, 1) := by decide +kernel
theorem dX10_order_88 : decode cX10_order 88 = .ok (.getfield 40, 3) := by decide +kernel
theorem dX10_order_91 : decode cX10_order 91 = .ok (.getfield 192, 3) := by decide +kernel
theorem dX10_order_94 : decode cX10_order 94 = .ok (.ireturn, 1) := by decide +kernel
theorem dX10_order_95 : decode cX10_order 95 = .ok (.iload 4, 2) := by decide +kernel
theorem dX10_order_97 : decode cX10_order 97 = .ok (.aload_n 0, 1) := by decide +kernel
theorem dX10_order_98 : decode cX10_order 98 = .ok (.getfield 40, 3) := by decide +kernel
theorem dX10_order_101 : decode cX10_order 101 = .ok (.getfield 195, 3) := by decide +kernel
theorem dX10_order_104 : decode cX10_order 104 = .ok (.if_icmp .ge 16, 3) := by decide +kernel
theorem dX10_order_107 : decode cX10_order 107 = .ok (.aload_n 0, 1) := by decide +kernel
theorem dX10_order_108 : decode cX10_order 108 = .ok (.getfield 40, 3) := by decide +kernel
theorem dX10_order_111 : decode cX10_order 111 = .ok (.getfield 196, 3) := by decide +kernel
theorem dX10_order_114 : decode cX10_order 114 = .ok (.iload 4, 2) := by decide +kernel
theorem dX10_order_116 : decode cX10_order 116 = .ok (.iaload, 1) := by decide +kernel
theorem dX10_order_117 : decode cX10_order 117 = .ok (.goto 5, 3) := by decide +kernel
theorem dX10_order_120 : decode cX10_order 120 = .ok (.bipush (-4), 2) := by decide +kernel
theorem dX10_order_122 : decode cX10_order 122 = .ok (.ireturn, 1) := by decide +kernel
theorem dX10_bag_0 : decode cX10_bag 0 = .ok (.iload_n 1, 1) := by decide +kernel
theorem dX10_bag_1 : decode cX10_bag 1 = .ok (.invokestatic 151, 3) := by decide +kernel
theorem dX10_bag_4 : decode cX10_bag 4 = .ok (.ifCond .eq 12, 3) := by decide +kernel
theorem dX10_bag_7 : decode cX10_bag 7 = .ok (.iload_n 2, 1) := by decide +kernel
theorem dX10_bag_8 : decode cX10_bag 8 = .ok (.ifCond .lt 8, 3) := by decide +kernel
theorem dX10_bag_11 : decode cX10_bag 11 = .ok (.iload_n 2, 1) := by decide +kernel
theorem dX10_bag_12 : decode cX10_bag 12 = .ok (.iconst 3, 1) := by decide +kernel
theorem dX10_bag_13 : decode cX10_bag 13 = .ok (.if_icmp .lt 5, 3) := by decide +kernel
theorem dX10_bag_16 : decode cX10_bag 16 = .ok (.iconst (-1), 1) := by decide +kernel
theorem dX10_bag_17 : decode cX10_bag 17 = .ok (.ireturn, 1) := by decide +kernel
theorem dX10_bag_18 : decode cX10_bag 18 = .ok (.aload_n 0, 1) := by decide +kernel
theorem dX10_bag_19 : decode cX10_bag 19 = .ok (.getfield 26, 3) := by decide +kernel
theorem dX10_bag_22 : decode cX10_bag 22 = .ok (.getfield 199, 3) := by decide +kernel
theorem dX10_bag_25 : decode cX10_bag 25 = .ok (.iload_n 1, 1) := by decide +kernel
theorem dX10_bag_26 : decode cX10_bag 26 = .ok (.iconst 3, 1) := by decide +kernel
theorem dX10_bag_27 : decode cX10_bag 27 = .ok (.imul, 1) := by decide +kernel
theorem dX10_bag_28 : decode cX10_bag 28 = .ok (.iload_n 2, 1) := by decide +kernel
theorem dX10_bag_29 : decode cX10_bag 29 = .ok (.iadd, 1) := by decide +kernel
theorem dX10_bag_30 : decode cX10_bag 30 = .ok (.iaload, 1) := by decide +kernel
theorem dX10_bag_31 : decode cX10_bag 31 = .ok (.ireturn, 1) := by decide +kernel
theorem dX10_fill_0 : decode cX10_fill 0 = .ok (.iload_n 1, 1) := by decide +kernel
theorem dX10_fill_1 : decode cX10_fill 1 = .ok (.invokestatic 151, 3) := by decide +kernel
theorem dX10_fill_4 : decode cX10_fill 4 = .ok (.ifCond .ne 5, 3) := by decide +kernel
theorem dX10_fill_7 : decode cX10_fill 7 = .ok (.iconst (-1), 1) := by decide +kernel
theorem dX10_fill_8 : decode cX10_fill 8 = .ok (.ireturn, 1) := by decide +kernel
theorem dX10_fill_9 : decode cX10_fill 9 = .ok (.aload_n 0, 1) := by decide +kernel
theorem dX10_fill_10 : decode cX10_fill 10 = .ok (.getfield 26, 3) := by decide +kernel
theorem dX10_fill_13 : decode cX10_fill 13 = .ok (.iload_n 1, 1) := by decide +kernel
theorem dX10_fill_14 : decode cX10_fill 14 = .ok (.invokevirtual 202, 3) := by decide +kernel
theorem dX10_fill_17 : decode cX10_fill 17 = .ok (.istore_n 2, 1) := by decide +kernel
theorem dX10_fill_18 : decode cX10_fill 18 = .ok (.iload_n 2, 1) := by decide +kernel
theorem dX10_fill_19 : decode cX10_fill 19 = .ok (.ifCond .ne 6, 3) := by decide +kernel
theorem dX10_fill_22 : decode cX10_fill 22 = .ok (.bipush (-2), 2) := by decide +kernel
theorem dX10_fill_24 : decode cX10_fill 24 = .ok (.ireturn, 1) := by decide +kernel
theorem dX10_fill_25 : decode cX10_fill 25 = .ok (.aload_n 0, 1) := by decide +kernel
theorem dX10_fill_26 : decode cX10_fill 26 = .ok (.invokevirtual 90, 3) := by decide +kernel
theorem dX10_fill_29 : decode cX10_fill 29 = .ok (.iconst 0, 1) := by decide +kernel
theorem dX10_fill_30 : decode cX10_fill 30 = .ok (.istore_n 3, 1) := by decide +kernel
theorem dX10_fill_31 : decode cX10_fill 31 = .ok (.iload_n 3, 1) := by decide +kernel
theorem dX10_fill_32 : decode cX10_fill 32 = .ok (.iconst 3, 1) := by decide +kernel
theorem dX10_fill_33 : decode cX10_fill 33 = .ok (.if_icmp .ge 24, 3) := by decide +kernel
theorem dX10_fill_36 : decode cX10_fill 36 = .ok (.aload_n 0, 1) := by decide +kernel
theorem dX10_fill_37 : decode cX10_fill 37 = .ok (.getfield 26, 3) := by decide +kernel
theorem dX10_fill_40 : decode cX10_fill 40 = .ok (.getfield 199, 3) := by decide +kernel
theorem dX10_fill_43 : decode cX10_fill 43 = .ok (.iload_n 1, 1) := by decide +kernel
theorem dX10_fill_44 : decode cX10_fill 44 = .ok (.iconst 3, 1) := by decide +kernel
theorem dX10_fill_45 : decode cX10_fill 45 = .ok (.imul, 1) := by decide +kernel
theorem dX10_fill_46 : decode cX10_fill 46 = .ok (.iload_n 3, 1) := by decide +kernel
theorem dX10_fill_47 : decode cX10_fill 47 = .ok (.iadd, 1) := by decide +kernel
theorem dX10_fill_48 : decode cX10_fill 48 = .ok (.bipush 6, 2) := by decide +kernel
theorem dX10_fill_50 : decode cX10_fill 50 = .ok (.iastore, 1) := by decide +kernel
theorem dX10_fill_51 : decode cX10_fill 51 = .ok (.iinc 3 1, 3) := by decide +kernel
theorem dX10_fill_54 : decode cX10_fill 54 = .ok (.goto (-23), 3) := by decide +kernel
theorem dX10_fill_57 : decode cX10_fill 57 = .ok (.iload_n 2, 1) := by decide +kernel
theorem dX10_fill_58 : decode cX10_fill 58 = .ok (.ireturn, 1) := by decide +kernel
theorem dX10_undo_0 : decode cX10_undo 0 = .ok (.aload_n 0, 1) := by decide +kernel
theorem dX10_undo_1 : decode cX10_undo 1 = .ok (.getfield 33, 3) := by decide +kernel
theorem dX10_undo_4 : decode cX10_undo 4 = .ok (.getfield 206, 3) := by decide +kernel
theorem dX10_undo_7 : decode cX10_undo 7 = .ok (.ifCond .ne 6, 3) := by decide +kernel
theorem dX10_undo_10 : decode cX10_undo 10 = .ok (.bipush (-2), 2) := by decide +kernel
theorem dX10_undo_12 : decode cX10_undo 12 = .ok (.ireturn, 1) := by decide +kernel
theorem dX10_undo_13 : decode cX10_undo 13 = .ok (.aload_n 0, 1) := by decide +kernel
theorem dX10_undo_14 : decode cX10_undo 14 = .ok (.getfield 33, 3) := by decide +kernel
theorem dX10_undo_17 : decode cX10_undo 17 = .ok (.aload_n 0, 1) := by decide +kernel
theorem dX10_undo_18 : decode cX10_undo 18 = .ok (.getfield 26, 3) := by decide +kernel
theorem dX10_undo_21 : decode cX10_undo 21 = .ok (.invokevirtual 207, 3) := by decide +kernel
theorem dX10_undo_24 : decode cX10_undo 24 = .ok (.aload_n 0, 1) := by decide +kernel
theorem dX10_undo_25 : decode cX10_undo 25 = .ok (.invokevirtual 211, 3) := by decide +kernel
theorem dX10_undo_28 : decode cX10_undo 28 = .ok (.aload_n 0, 1) := by decide +kernel
theorem dX10_undo_29 : decode cX10_undo 29 = .ok (.getfield 33, 3) := by decide +kernel
theorem dX10_undo_32 : decode cX10_undo 32 = .ok (.getfield 206, 3) := by decide +kernel
theorem dX10_undo_35 : decode cX10_undo 35 = .ok (.ireturn, 1) := by decide +kernel
theorem dX10_drawn_0 : decode cX10_drawn 0 = .ok (.iload_n 1, 1) := by decide +kernel
theorem dX10_drawn_1 : decode cX10_drawn 1 = .ok (.ifCond .lt 10, 3) := by decide +kernel
theorem dX10_drawn_4 : decode cX10_drawn 4 = .ok (.iload_n 1, 1) := by decide +kernel
theorem dX10_drawn_5 : decode cX10_drawn 5 = .ok (.sipush 420, 3) := by decide +kernel
theorem dX10_drawn_8 : decode cX10_drawn 8 = .ok (.if_icmp .lt 5, 3) := by decide +kernel
theorem dX10_drawn_11 : decode cX10_drawn 11 = .ok (.iconst (-1), 1) := by decide +kernel
theorem dX10_drawn_12 : decode cX10_drawn 12 = .ok (.ireturn, 1) := by decide +kernel
theorem dX10_drawn_13 : decode cX10_drawn 13 = .ok (.iload_n 1, 1) := by decide +kernel
theorem dX10_drawn_14 : decode cX10_drawn 14 = .ok (.bipush 21, 2) := by decide +kernel
theorem dX10_drawn_16 : decode cX10_drawn 16 = .ok (.irem, 1) := by decide +kernel
theorem dX10_drawn_17 : decode cX10_drawn 17 = .ok (.istore_n 2, 1) := by decide +kernel
theorem dX10_drawn_18 : decode cX10_drawn 18 = .ok (.iload_n 2, 1) := by decide +kernel
theorem dX10_drawn_19 : decode cX10_drawn 19 = .ok (.bipush 20, 2) := by decide +kernel
theorem dX10_drawn_21 : decode cX10_drawn 21 = .ok (.if_icmp .ne 6, 3) := by decide +kernel
theorem dX10_drawn_24 : decode cX10_drawn 24 = .ok (.bipush 47, 2) := by decide +kernel
theorem dX10_drawn_26 : decode cX10_drawn 26 = .ok (.ireturn, 1) := by decide +kernel
theorem dX10_drawn_27 : decode cX10_drawn 27 = .ok (.bipush 20, 2) := by decide +kernel
theorem dX10_drawn_29 : decode cX10_drawn 29 = .ok (.iload_n 1, 1) := by decide +kernel
theorem dX10_drawn_30 : decode cX10_drawn 30 = .ok (.bipush 21, 2) := by decide +kernel
theorem dX10_drawn_32 : decode cX10_drawn 32 = .ok (.idiv, 1) := by decide +kernel
theorem dX10_drawn_33 : decode cX10_drawn 33 = .ok (.imul, 1) := by decide +kernel
theorem dX10_drawn_34 : decode cX10_drawn 34 = .ok (.iload_n 2, 1) := by decide +kernel
theorem dX10_drawn_35 : decode cX10_drawn 35 = .ok (.iadd, 1) := by decide +kernel
theorem dX10_drawn_36 : decode cX10_drawn 36 = .ok (.istore_n 3, 1) := by decide +kernel
theorem dX10_drawn_37 : decode cX10_drawn 37 = .ok (.aload_n 0, 1) := by decide +kernel
theorem dX10_drawn_38 : decode cX10_drawn 38 = .ok (.getfield 26, 3) := by decide +kernel
theorem dX10_drawn_41 : decode cX10_drawn 41 = .ok (.getfield 130, 3) := by decide +kernel
theorem dX10_drawn_44 : decode cX10_drawn 44 = .ok (.iload_n 3, 1) := by decide +kernel
theorem dX10_drawn_45 : decode cX10_drawn 45 = .ok (.iaload, 1) := by decide +kernel
theorem dX10_drawn_46 : decode cX10_drawn 46 = .ok (.istore 4, 2) := by decide +kernel
theorem dX10_drawn_48 : decode cX10_drawn 48 = .ok (.aload_n 0, 1) := by decide +kernel
theorem dX10_drawn_49 : decode cX10_drawn 49 = .ok (.iload 4, 2) := by decide +kernel
theorem dX10_drawn_51 : decode cX10_drawn 51 = .ok (.invokevirtual 93, 3) := by decide +kernel
theorem dX10_drawn_54 : decode cX10_drawn 54 = .ok (.ifCond .eq 17, 3) := by decide +kernel
theorem dX10_drawn_57 : decode cX10_drawn 57 = .ok (.bipush 97, 2) := by decide +kernel
theorem dX10_drawn_59 : decode cX10_drawn 59 = .ok (.aload_n 0, 1) := by decide +kernel
theorem dX10_drawn_60 : decode cX10_drawn 60 = .ok (.getfield 26, 3) := by decide +kernel
theorem dX10_drawn_63 : decode cX10_drawn 63 = .ok (.getfield 109, 3) := by decide +kernel
theorem dX10_drawn_66 : decode cX10_drawn 66 = .ok (.iload 4, 2) := by decide +kernel
theorem dX10_drawn_68 : decode cX10_drawn 68 = .ok (.iaload, 1) := by decide +kernel
theorem dX10_drawn_69 : decode cX10_drawn 69 = .ok (.iadd, 1) := by decide +kernel
theorem dX10_drawn_70 : decode cX10_drawn 70 = .ok (.ireturn, 1) := by decide +kernel
theorem dX10_drawn_71 : decode cX10_drawn 71 = .ok (.iconst 0, 1) := by decide +kernel
theorem dX10_drawn_72 : decode cX10_drawn 72 = .ok (.istore 5, 2) := by decide +kernel
theorem dX10_drawn_74 : decode cX10_drawn 74 = .ok (.iload 5, 2) := by decide +kernel
theorem dX10_drawn_76 : decode cX10_drawn 76 = .ok (.aload_n 0, 1) := by decide +kernel
theorem dX10_drawn_77 : decode cX10_drawn 77 = .ok (.getfield 53, 3) := by decide +kernel
theorem dX10_drawn_80 : decode cX10_drawn 80 = .ok (.getfield 214, 3) := by decide +kernel
theorem dX10_drawn_83 : decode cX10_drawn 83 = .ok (.if_icmp .ge 37, 3) := by decide +kernel
theorem dX10_drawn_86 : decode cX10_drawn 86 = .ok (.aload_n 0, 1) := by decide +kernel
theorem dX10_drawn_87 : decode cX10_drawn 87 = .ok (.getfield 26, 3) := by decide +kernel
theorem dX10_drawn_90 : decode cX10_drawn 90 = .ok (.iload 5, 2) := by decide +kernel
theorem dX10_drawn_92 : decode cX10_drawn 92 = .ok (.invokevirtual 133, 3) := by decide +kernel
theorem dX10_drawn_95 : decode cX10_drawn 95 = .ok (.ifCond .ne 19, 3) := by decide +kernel
theorem dX10_drawn_98 : decode cX10_drawn 98 = .ok (.aload_n 0, 1) := by decide +kernel
theorem dX10_drawn_99 : decode cX10_drawn 99 = .ok (.getfield 53, 3) := by decide +kernel
theorem dX10_drawn_102 : decode cX10_drawn 102 = .ok (.iload 5, 2) := by decide +kernel
theorem dX10_drawn_104 : decode cX10_drawn 104 = .ok (.iload_n 3, 1) := by decide +kernel
theorem dX10_drawn_105 : decode cX10_drawn 105 = .ok (.invokevirtual 217, 3) := by decide +kernel
theorem dX10_drawn_108 : decode cX10_drawn 108 = .ok (.ifCond .eq 6, 3) := by decide +kernel
theorem dX10_drawn_111 : decode cX10_drawn 111 = .ok (.bipush 43, 2) := by decide +kernel
theorem dX10_drawn_113 : decode cX10_drawn 113 = .ok (.ireturn, 1) := by decide +kernel
theorem dX10_drawn_114 : decode cX10_drawn 114 = .ok (.iinc 5 1, 3) := by decide +kernel
theorem dX10_drawn_117 : decode cX10_drawn 117 = .ok (.goto (-43), 3) := by decide +kernel
theorem dX10_drawn_120 : decode cX10_drawn 120 = .ok (.bipush 46, 2) := by decide +kernel
theorem dX10_drawn_122 : decode cX10_drawn 122 = .ok (.ireturn, 1) := by decide +kernel
theorem dX10_count_0 : decode cX10_count 0 = .ok (.iload_n 1, 1) := by decide +kernel
theorem dX10_count_1 : decode cX10_count 1 = .ok (.tableswitch 140 0 10 #[59, 67, 67, 67, 79, 87, 95, 103, 111, 119, 132], 59) := by decide +kernel
theorem dX10_count_60 : decode cX10_count 60 = .ok (.aload_n 0, 1) := by decide +kernel
theorem dX10_count_61 : decode cX10_count 61 = .ok (.getfield 53, 3) := by decide +kernel
theorem dX10_count_64 : decode cX10_count 64 = .ok (.getfield 214, 3) := by decide +kernel
theorem dX10_count_67 : decode cX10_count 67 = .ok (.ireturn, 1) := by decide +kernel
theorem dX10_count_68 : decode cX10_count 68 = .ok (.aload_n 0, 1) := by decide +kernel
theorem dX10_count_69 : decode cX10_count 69 = .ok (.getfield 53, 3) := by decide +kernel
theorem dX10_count_72 : decode cX10_count 72 = .ok (.getfield 170, 3) := by decide +kernel
theorem dX10_count_75 : decode cX10_count 75 = .ok (.iload_n 1, 1) := by decide +kernel
theorem dX10_count_76 : decode cX10_count 76 = .ok (.iconst 1, 1) := by decide +kernel
theorem dX10_count_77 : decode cX10_count 77 = .ok (.isub, 1) := by decide +kernel
theorem dX10_count_78 : decode cX10_count 78 = .ok (.iaload, 1) := by decide +kernel
theorem dX10_count_79 : decode cX10_count 79 = .ok (.ireturn, 1) := by decide +kernel
theorem dX10_count_80 : decode cX10_count 80 = .ok (.aload_n 0, 1) := by decide +kernel
theorem dX10_count_81 : decode cX10_count 81 = .ok (.getfield 26, 3) := by decide +kernel
theorem dX10_count_84 : decode cX10_count 84 = .ok (.getfield 87, 3) := by decide +kernel
theorem dX10_count_87 : decode cX10_count 87 = .ok (.ireturn, 1) := by decide +kernel
theorem dX10_count_88 : decode cX10_count 88 = .ok (.aload_n 0, 1) := by decide +kernel
theorem dX10_count_89 : decode cX10_count 89 = .ok (.getfield 26, 3) := by decide +kernel
theorem dX10_count_92 : decode cX10_count 92 = .ok (.getfield 220, 3) := by decide +kernel
theorem dX10_count_95 : decode cX10_count 95 = .ok (.ireturn, 1) := by decide +kernel
theorem dX10_count_96 : decode cX10_count 96 = .ok (.aload_n 0, 1) := by decide +kernel
theorem dX10_count_97 : decode cX10_count 97 = .ok (.getfield 26, 3) := by decide +kernel
theorem dX10_count_100 : decode cX10_count 100 = .ok (.getfield 223, 3) := by decide +kernel
theorem dX10_count_103 : decode cX10_count 103 = .ok (.ireturn, 1) := by decide +kernel
theorem dX10_count_104 : decode cX10_count 104 = .ok (.aload_n 0, 1) := by decide +kernel
theorem dX10_count_105 : decode cX10_count 105 = .ok (.getfield 33, 3) := by decide +kernel
theorem dX10_count_108 : decode cX10_count 108 = .ok (.getfield 206, 3) := by decide +kernel
theorem dX10_count_111 : decode cX10_count 111 = .ok (.ireturn, 1) := by decide +kernel
theorem dX10_count_112 : decode cX10_count 112 = .ok (.aload_n 0, 1) := by decide +kernel
theorem dX10_count_113 : decode cX10_count 113 = .ok (.getfield 12, 3) := by decide +kernel
theorem dX10_count_116 : decode cX10_count 116 = .ok (.getfield 80, 3) := by decide +kernel
theorem dX10_count_119 : decode cX10_count 119 = .ok (.ireturn, 1) := by decide +kernel
theorem dX10_count_120 : decode cX10_count 120 = .ok (.aload_n 0, 1) := by decide +kernel
theorem dX10_count_121 : decode cX10_count 121 = .ok (.getfield 53, 3) := by decide +kernel
theorem dX10_count_124 : decode cX10_count 124 = .ok (.getfield 214, 3) := by decide +kernel
theorem dX10_count_127 : decode cX10_count 127 = .ok (.aload_n 0, 1) := by decide +kernel
theorem dX10_count_128 : decode cX10_count 128 = .ok (.invokevirtual 226, 3) := by decide +kernel
theorem dX10_count_131 : decode cX10_count 131 = .ok (.isub, 1) := by decide +kernel
theorem dX10_count_132 : decode cX10_count 132 = .ok (.ireturn, 1) := by decide +kernel
theorem dX10_count_133 : decode cX10_count 133 = .ok (.aload_n 0, 1) := by decide +kernel
theorem dX10_count_134 : decode cX10_count 134 = .ok (.getfield 53, 3) := by decide +kernel
theorem dX10_count_137 : decode cX10_count 137 = .ok (.invokevirtual 229, 3) := by decide +kernel
theorem dX10_count_140 : decode cX10_count 140 = .ok (.ireturn, 1) := by decide +kernel
theorem dX10_count_141 : decode cX10_count 141 = .ok (.iconst (-1), 1) := by decide +kernel
theorem dX10_count_142 : decode cX10_count 142 = .ok (.ireturn, 1) := by decide +kernel
theorem dX10_layText_0 : decode cX10_layText 0 = .ok (.aload_n 0, 1) := by decide +kernel
theorem dX10_layText_1 : decode cX10_layText 1 = .ok (.getfield 12, 3) := by decide +kernel
theorem dX10_layText_4 : decode cX10_layText 4 = .ok (.aload_n 0, 1) := by decide +kernel
theorem dX10_layText_5 : decode cX10_layText 5 = .ok (.getfield 57, 3) := by decide +kernel
theorem dX10_layText_8 : decode cX10_layText 8 = .ok (.invokevirtual 83, 3) := by decide +kernel
theorem dX10_layText_11 : decode cX10_layText 11 = .ok (.bipush (-4), 2) := by decide +kernel
theorem dX10_layText_13 : decode cX10_layText 13 = .ok (.if_icmp .ne 13, 3) := by decide +kernel
theorem dX10_layText_16 : decode cX10_layText 16 = .ok (.aload_n 0, 1) := by decide +kernel
theorem dX10_layText_17 : decode cX10_layText 17 = .ok (.getfield 57, 3) := by decide +kernel
theorem dX10_layText_20 : decode cX10_layText 20 = .ok (.getfield 214, 3) := by decide +kernel
theorem dX10_layText_23 : decode cX10_layText 23 = .ok (.ifCond .ne 6, 3) := by decide +kernel
theorem dX10_layText_26 : decode cX10_layText 26 = .ok (.bipush (-2), 2) := by decide +kernel
theorem dX10_layText_28 : decode cX10_layText 28 = .ok (.ireturn, 1) := by decide +kernel
theorem dX10_layText_29 : decode cX10_layText 29 = .ok (.aload_n 0, 1) := by decide +kernel
theorem dX10_layText_30 : decode cX10_layText 30 = .ok (.getfield 53, 3) := by decide +kernel
theorem dX10_layText_33 : decode cX10_layText 33 = .ok (.astore_n 1, 1) := by decide +kernel
theorem dX10_layText_34 : decode cX10_layText 34 = .ok (.aload_n 0, 1) := by decide +kernel
theorem dX10_layText_35 : decode cX10_layText 35 = .ok (.aload_n 0, 1) := by decide +kernel
theorem dX10_layText_36 : decode cX10_layText 36 = .ok (.getfield 57, 3) := by decide +kernel
theorem dX10_layText_39 : decode cX10_layText 39 = .ok (.putfield 53, 3) := by decide +kernel
theorem dX10_layText_42 : decode cX10_layText 42 = .ok (.aload_n 0, 1) := by decide +kernel
theorem dX10_layText_43 : decode cX10_layText 43 = .ok (.aload_n 1, 1) := by decide +kernel
theorem dX10_layText_44 : decode cX10_layText 44 = .ok (.putfield 57, 3) := by decide +kernel
theorem dX10_layText_47 : decode cX10_layText 47 = .ok (.aload_n 0, 1) := by decide +kernel
theorem dX10_layText_48 : decode cX10_layText 48 = .ok (.getfield 26, 3) := by decide +kernel
theorem dX10_layText_51 : decode cX10_layText 51 = .ok (.aload_n 0, 1) := by decide +kernel
theorem dX10_layText_52 : decode cX10_layText 52 = .ok (.getfield 53, 3) := by decide +kernel
theorem dX10_layText_55 : decode cX10_layText 55 = .ok (.invokevirtual 232, 3) := by decide +kernel
theorem dX10_layText_58 : decode cX10_layText 58 = .ok (.aload_n 0, 1) := by decide +kernel
theorem dX10_layText_59 : decode cX10_layText 59 = .ok (.getfield 33, 3) := by decide +kernel
theorem dX10_layText_62 : decode cX10_layText 62 = .ok (.iconst 0, 1) := by decide +kernel
theorem dX10_layText_63 : decode cX10_layText 63 = .ok (.putfield 206, 3) := by decide +kernel
theorem dX10_layText_66 : decode cX10_layText 66 = .ok (.aload_n 0, 1) := by decide +kernel
theorem dX10_layText_67 : decode cX10_layText 67 = .ok (.invokevirtual 211, 3) := by decide +kernel
theorem dX10_layText_70 : decode cX10_layText 70 = .ok (.aload_n 0, 1) := by decide +kernel
theorem dX10_layText_71 : decode cX10_layText 71 = .ok (.getfield 53, 3) := by decide +kernel
theorem dX10_layText_74 : decode cX10_layText 74 = .ok (.getfield 214, 3) := by decide +kernel
theorem dX10_layText_77 : decode cX10_layText 77 = .ok (.ireturn, 1) := by decide +kernel
theorem dX10_beginChange_0 : decode cX10_beginChange 0 = .ok (.aload_n 0, 1) := by decide +kernel
theorem dX10_beginChange_1 : decode cX10_beginChange 1 = .ok (.getfield 33, 3) := by decide +kernel
theorem dX10_beginChange_4 : decode cX10_beginChange 4 = .ok (.aload_n 0, 1) := by decide +kernel
theorem dX10_beginChange_5 : decode cX10_beginChange 5 = .ok (.getfield 26, 3) := by decide +kernel
theorem dX10_beginChange_8 : decode cX10_beginChange 8 = .ok (.invokevirtual 235, 3) := by decide +kernel
theorem dX10_beginChange_11 : decode cX10_beginChange 11 = .ok (.aload_n 0, 1) := by decide +kernel
theorem dX10_beginChange_12 : decode cX10_beginChange 12 = .ok (.invokevirtual 211, 3) := by decide +kernel
theorem dX10_beginChange_15 : decode cX10_beginChange 15 = .ok (.return_, 1) := by decide +kernel
theorem dX10_forgetAnswers_0 : decode cX10_forgetAnswers 0 = .ok (.iconst 0, 1) := by decide +kernel
theorem dX10_forgetAnswers_1 : decode cX10_forgetAnswers 1 = .ok (.istore_n 1, 1) := by decide +kernel
theorem dX10_forgetAnswers_2 : decode cX10_forgetAnswers 2 = .ok (.iload_n 1, 1) := by decide +kernel
theorem dX10_forgetAnswers_3 : decode cX10_forgetAnswers 3 = .ok (.aload_n 0, 1) := by decide +kernel
theorem dX10_forgetAnswers_4 : decode cX10_forgetAnswers 4 = .ok (.getfield 46, 3) := by decide +kernel
theorem dX10_forgetAnswers_7 : decode cX10_forgetAnswers 7 = .ok (.arraylength, 1) := by decide +kernel
theorem dX10_forgetAnswers_8 : decode cX10_forgetAnswers 8 = .ok (.if_icmp .ge 19, 3) := by decide +kernel
theorem dX10_forgetAnswers_11 : decode cX10_forgetAnswers 11 = .ok (.aload_n 0, 1) := by decide +kernel
theorem dX10_forgetAnswers_12 : decode cX10_forgetAnswers 12 = .ok (.getfield 46, 3) := by decide +kernel
theorem dX10_forgetAnswers_15 : decode cX10_forgetAnswers 15 = .ok (.iload_n 1, 1) := by decide +kernel
theorem dX10_forgetAnswers_16 : decode cX10_forgetAnswers 16 = .ok (.aaload, 1) := by decide +kernel
theorem dX10_forgetAnswers_17 : decode cX10_forgetAnswers 17 = .ok (.iconst 0, 1) := by decide +kernel
theorem dX10_forgetAnswers_18 : decode cX10_forgetAnswers 18 = .ok (.putfield 238, 3) := by decide +kernel
theorem dX10_forgetAnswers_21 : decode cX10_forgetAnswers 21 = .ok (.iinc 1 1, 3) := by decide +kernel
theorem dX10_forgetAnswers_24 : decode cX10_forgetAnswers 24 = .ok (.goto (-22), 3) := by decide +kernel
theorem dX10_forgetAnswers_27 : decode cX10_forgetAnswers 27 = .ok (.aload_n 0, 1) := by decide +kernel
theorem dX10_forgetAnswers_28 : decode cX10_forgetAnswers 28 = .ok (.getfield 40, 3) := by decide +kernel
theorem dX10_forgetAnswers_31 : decode cX10_forgetAnswers 31 = .ok (.iconst 0, 1) := by decide +kernel
theorem dX10_forgetAnswers_32 : decode cX10_forgetAnswers 32 = .ok (.putfield 241, 3) := by decide +kernel
theorem dX10_forgetAnswers_35 : decode cX10_forgetAnswers 35 = .ok (.return_, 1) := by decide +kernel
theorem dX10_wayOf_0 : decode cX10_wayOf 0 = .ok (.aload_n 0, 1) := by decide +kernel
theorem dX10_wayOf_1 : decode cX10_wayOf 1 = .ok (.getfield 46, 3) := by decide +kernel
theorem dX10_wayOf_4 : decode cX10_wayOf 4 = .ok (.iload_n 1, 1) := by decide +kernel
theorem dX10_wayOf_5 : decode cX10_wayOf 5 = .ok (.iconst 3, 1) := by decide +kernel
theorem dX10_wayOf_6 : decode cX10_wayOf 6 = .ok (.imul, 1) := by decide +kernel
theorem dX10_wayOf_7 : decode cX10_wayOf 7 = .ok (.iload_n 2, 1) := by decide +kernel
theorem dX10_wayOf_8 : decode cX10_wayOf 8 = .ok (.iadd, 1) := by decide +kernel
theorem dX10_wayOf_9 : decode cX10_wayOf 9 = .ok (.aaload, 1) := by decide +kernel
theorem dX10_wayOf_10 : decode cX10_wayOf 10 = .ok (.astore_n 3, 1) := by decide +kernel
theorem dX10_wayOf_11 : decode cX10_wayOf 11 = .ok (.aload_n 3, 1) := by decide +kernel
theorem dX10_wayOf_12 : decode cX10_wayOf 12 = .ok (.getfield 238, 3) := by decide +kernel
theorem dX10_wayOf_15 : decode cX10_wayOf 15 = .ok (.ifCond .ne 37, 3) := by decide +kernel
theorem dX10_wayOf_18 : decode cX10_wayOf 18 = .ok (.aload_n 0, 1) := by decide +kernel
theorem dX10_wayOf_19 : decode cX10_wayOf 19 = .ok (.getfield 19, 3) := by decide +kernel
theorem dX10_wayOf_22 : decode cX10_wayOf 22 = .ok (.aload_n 0, 1) := by decide +kernel
theorem dX10_wayOf_23 : decode cX10_wayOf 23 = .ok (.getfield 53, 3) := by decide +kernel
theorem dX10_wayOf_26 : decode cX10_wayOf 26 = .ok (.getfield 97, 3) := by decide +kernel
theorem dX10_wayOf_29 : decode cX10_wayOf 29 = .ok (.iload_n 1, 1) := by decide +kernel
theorem dX10_wayOf_30 : decode cX10_wayOf 30 = .ok (.aaload, 1) := by decide +kernel
theorem dX10_wayOf_31 : decode cX10_wayOf 31 = .ok (.aload_n 0, 1) := by decide +kernel
theorem dX10_wayOf_32 : decode cX10_wayOf 32 = .ok (.getfield 53, 3) := by decide +kernel
theorem dX10_wayOf_35 : decode cX10_wayOf 35 = .ok (.getfield 170, 3) := by decide +kernel
theorem dX10_wayOf_38 : decode cX10_wayOf 38 = .ok (.aload_n 0, 1) := by decide +kernel
theorem dX10_wayOf_39 : decode cX10_wayOf 39 = .ok (.getfield 26, 3) := by decide +kernel
theorem dX10_wayOf_42 : decode cX10_wayOf 42 = .ok (.iload_n 2, 1) := by decide +kernel
theorem dX10_wayOf_43 : decode cX10_wayOf 43 = .ok (.aload_n 3, 1) := by decide +kernel
theorem dX10_wayOf_44 : decode cX10_wayOf 44 = .ok (.invokevirtual 242, 3) := by decide +kernel
theorem dX10_wayOf_47 : decode cX10_wayOf 47 = .ok (.aload_n 3, 1) := by decide +kernel
theorem dX10_wayOf_48 : decode cX10_wayOf 48 = .ok (.iconst 1, 1) := by decide +kernel
theorem dX10_wayOf_49 : decode cX10_wayOf 49 = .ok (.putfield 238, 3) := by decide +kernel
theorem dX10_wayOf_52 : decode cX10_wayOf 52 = .ok (.aload_n 3, 1) := by decide +kernel
theorem dX10_wayOf_53 : decode cX10_wayOf 53 = .ok (.areturn, 1) := by decide +kernel
theorem dX10_searchOrders_0 : decode cX10_searchOrders 0 = .ok (.iconst 0, 1) := by decide +kernel
theorem dX10_searchOrders_1 : decode cX10_searchOrders 1 = .ok (.istore 4, 2) := by decide +kernel
theorem dX10_searchOrders_3 : decode cX10_searchOrders 3 = .ok (.iconst 0, 1) := by decide +kernel
theorem dX10_searchOrders_4 : decode cX10_searchOrders 4 = .ok (.istore 5, 2) := by decide +kernel
theorem dX10_searchOrders_6 : decode cX10_searchOrders 6 = .ok (.iload 5, 2) := by decide +kernel
theorem dX10_searchOrders_8 : decode cX10_searchOrders 8 = .ok (.aload_n 0, 1) := by decide +kernel
theorem dX10_searchOrders_9 : decode cX10_searchOrders 9 = .ok (.getfield 53, 3) := by decide +kernel
theorem dX10_searchOrders_12 : decode cX10_searchOrders 12 = .ok (.getfield 214, 3) := by decide +kernel
theorem dX10_searchOrders_15 : decode cX10_searchOrders 15 = .ok (.if_icmp .ge 181, 3) := by decide +kernel
theorem dX10_searchOrders_18 : decode cX10_searchOrders 18 = .ok (.aload_n 2, 1) := by decide +kernel
theorem dX10_searchOrders_19 : decode cX10_searchOrders 19 = .ok (.iload 5, 2) := by decide +kernel
theorem dX10_searchOrders_21 : decode cX10_searchOrders 21 = .ok (.invokevirtual 133, 3) := by decide +kernel
theorem dX10_searchOrders_24 : decode cX10_searchOrders 24 = .ok (.ifCond .eq 6, 3) := by decide +kernel
theorem dX10_searchOrders_27 : decode cX10_searchOrders 27 = .ok (.goto 163, 3) := by decide +kernel
theorem dX10_searchOrders_30 : decode cX10_searchOrders 30 = .ok (.iinc 4 1, 3) := by decide +kernel
theorem dX10_searchOrders_33 : decode cX10_searchOrders 33 = .ok (.iload_n 1, 1) := by decide +kernel
theorem dX10_searchOrders_34 : decode cX10_searchOrders 34 = .ok (.iconst 3, 1) := by decide +kernel
theorem dX10_searchOrders_35 : decode cX10_searchOrders 35 = .ok (.if_icmp .lt 6, 3) := by decide +kernel
theorem dX10_searchOrders_38 : decode cX10_searchOrders 38 = .ok (.goto 152, 3) := by decide +kernel
theorem dX10_searchOrders_41 : decode cX10_searchOrders 41 = .ok (.aload_n 0, 1) := by decide +kernel
theorem dX10_searchOrders_42 : decode cX10_searchOrders 42 = .ok (.getfield 53, 3) := by decide +kernel
theorem dX10_searchOrders_45 : decode cX10_searchOrders 45 = .ok (.getfield 97, 3) := by decide +kernel
theorem dX10_searchOrders_48 : decode cX10_searchOrders 48 = .ok (.iload 5, 2) := by decide +kernel
theorem dX10_searchOrders_50 : decode cX10_searchOrders 50 = .ok (.aaload, 1) := by decide +kernel
theorem dX10_searchOrders_51 : decode cX10_searchOrders 51 = .ok (.astore 6, 2) := by decide +kernel
theorem dX10_searchOrders_53 : decode cX10_searchOrders 53 = .ok (.aload_n 0, 1) := by decide +kernel
theorem dX10_searchOrders_54 : decode cX10_searchOrders 54 = .ok (.getfield 40, 3) := by decide +kernel
theorem dX10_searchOrders_57 : decode cX10_searchOrders 57 = .ok (.getfield 246, 3) := by decide +kernel
theorem dX10_searchOrders_60 : decode cX10_searchOrders 60 = .ok (.astore 7, 2) := by decide +kernel
theorem dX10_searchOrders_62 : decode cX10_searchOrders 62 = .ok (.aload_n 0, 1) := by decide +kernel
theorem dX10_searchOrders_63 : decode cX10_searchOrders 63 = .ok (.getfield 19, 3) := by decide +kernel
theorem dX10_searchOrders_66 : decode cX10_searchOrders 66 = .ok (.aload 6, 2) := by decide +kernel
theorem dX10_searchOrders_68 : decode cX10_searchOrders 68 = .ok (.aload_n 0, 1) := by decide +kernel
theorem dX10_searchOrders_69 : decode cX10_searchOrders 69 = .ok (.getfield 53, 3) := by decide +kernel
theorem dX10_searchOrders_72 : decode cX10_searchOrders 72 = .ok (.getfield 170, 3) := by decide +kernel
theorem dX10_searchOrders_75 : decode cX10_searchOrders 75 = .ok (.aload_n 2, 1) := by decide +kernel
theorem dX10_searchOrders_76 : decode cX10_searchOrders 76 = .ok (.aload_n 0, 1) := by decide +kernel
theorem dX10_searchOrders_77 : decode cX10_searchOrders 77 = .ok (.getfield 40, 3) := by decide +kernel
theorem dX10_searchOrders_80 : decode cX10_searchOrders 80 = .ok (.getfield 250, 3) := by decide +kernel
theorem dX10_searchOrders_83 : decode cX10_searchOrders 83 = .ok (.iload 5, 2) := by decide +kernel
theorem dX10_searchOrders_85 : decode cX10_searchOrders 85 = .ok (.iaload, 1) := by decide +kernel
theorem dX10_searchOrders_86 : decode cX10_searchOrders 86 = .ok (.aload 7, 2) := by decide +kernel
theorem dX10_searchOrders_88 : decode cX10_searchOrders 88 = .ok (.invokevirtual 242, 3) := by decide +kernel
theorem dX10_searchOrders_91 : decode cX10_searchOrders 91 = .ok (.iload_n 3, 1) := by decide +kernel
theorem dX10_searchOrders_92 : decode cX10_searchOrders 92 = .ok (.aload 7, 2) := by decide +kernel
theorem dX10_searchOrders_94 : decode cX10_searchOrders 94 = .ok (.getfield 162, 3) := by decide +kernel
theorem dX10_searchOrders_97 : decode cX10_searchOrders 97 = .ok (.iadd, 1) := by decide +kernel
theorem dX10_searchOrders_98 : decode cX10_searchOrders 98 = .ok (.istore 8, 2) := by decide +kernel
theorem dX10_searchOrders_100 : decode cX10_searchOrders 100 = .ok (.aload 7, 2) := by decide +kernel
theorem dX10_searchOrders_102 : decode cX10_searchOrders 102 = .ok (.getfield 158, 3) := by decide +kernel
theorem dX10_searchOrders_105 : decode cX10_searchOrders 105 = .ok (.ifCond .eq 85, 3) := by decide +kernel
theorem dX10_searchOrders_108 : decode cX10_searchOrders 108 = .ok (.aload_n 0, 1) := by decide +kernel
theorem dX10_searchOrders_109 : decode cX10_searchOrders 109 = .ok (.getfield 40, 3) := by decide +kernel
theorem dX10_searchOrders_112 : decode cX10_searchOrders 112 = .ok (.iload 8, 2) := by decide +kernel
theorem dX10_searchOrders_114 : decode cX10_searchOrders 114 = .ok (.invokevirtual 251, 3) := by decide +kernel
theorem dX10_searchOrders_117 : decode cX10_searchOrders 117 = .ok (.ifCond .eq 73, 3) := by decide +kernel
theorem dX10_searchOrders_120 : decode cX10_searchOrders 120 = .ok (.aload_n 0, 1) := by decide +kernel
theorem dX10_searchOrders_121 : decode cX10_searchOrders 121 = .ok (.getfield 40, 3) := by decide +kernel
theorem dX10_searchOrders_124 : decode cX10_searchOrders 124 = .ok (.getfield 254, 3) := by decide +kernel
theorem dX10_searchOrders_127 : decode cX10_searchOrders 127 = .ok (.iload_n 1, 1) := by decide +kernel
theorem dX10_searchOrders_128 : decode cX10_searchOrders 128 = .ok (.aaload, 1) := by decide +kernel
theorem dX10_searchOrders_129 : decode cX10_searchOrders 129 = .ok (.aload_n 2, 1) := by decide +kernel
theorem dX10_searchOrders_130 : decode cX10_searchOrders 130 = .ok (.invokevirtual 258, 3) := by decide +kernel
theorem dX10_searchOrders_133 : decode cX10_searchOrders 133 = .ok (.aload_n 0, 1) := by decide +kernel
theorem dX10_searchOrders_134 : decode cX10_searchOrders 134 = .ok (.getfield 40, 3) := by decide +kernel
theorem dX10_searchOrders_137 : decode cX10_searchOrders 137 = .ok (.getfield 254, 3) := by decide +kernel
theorem dX10_searchOrders_140 : decode cX10_searchOrders 140 = .ok (.iload_n 1, 1) := by decide +kernel
theorem dX10_searchOrders_141 : decode cX10_searchOrders 141 = .ok (.aaload, 1) := by decide +kernel
theorem dX10_searchOrders_142 : decode cX10_searchOrders 142 = .ok (.iload 5, 2) := by decide +kernel
theorem dX10_searchOrders_144 : decode cX10_searchOrders 144 = .ok (.aload 6, 2) := by decide +kernel
theorem dX10_searchOrders_146 : decode cX10_searchOrders 146 = .ok (.aload_n 0, 1) := by decide +kernel
theorem dX10_searchOrders_147 : decode cX10_searchOrders 147 = .ok (.getfield 40, 3) := by decide +kernel
theorem dX10_searchOrders_150 : decode cX10_searchOrders 150 = .ok (.getfield 250, 3) := by decide +kernel
theorem dX10_searchOrders_153 : decode cX10_searchOrders 153 = .ok (.iload 5, 2) := by decide +kernel
theorem dX10_searchOrders_155 : decode cX10_searchOrders 155 = .ok (.iaload, 1) := by decide +kernel
theorem dX10_searchOrders_156 : decode cX10_searchOrders 156 = .ok (.aload 7, 2) := by decide +kernel
theorem dX10_searchOrders_158 : decode cX10_searchOrders 158 = .ok (.invokevirtual 166, 3) := by decide +kernel
theorem dX10_searchOrders_161 : decode cX10_searchOrders 161 = .ok (.aload_n 0, 1) := by decide +kernel
theorem dX10_searchOrders_162 : decode cX10_searchOrders 162 = .ok (.getfield 40, 3) := by decide +kernel
theorem dX10_searchOrders_165 : decode cX10_searchOrders 165 = .ok (.getfield 261, 3) := by decide +kernel
theorem dX10_searchOrders_168 : decode cX10_searchOrders 168 = .ok (.iload_n 1, 1) := by decide +kernel
theorem dX10_searchOrders_169 : decode cX10_searchOrders 169 = .ok (.iload 5, 2) := by decide +kernel
theorem dX10_searchOrders_171 : decode cX10_searchOrders 171 = .ok (.iastore, 1) := by decide +kernel
theorem dX10_searchOrders_172 : decode cX10_searchOrders 172 = .ok (.aload_n 0, 1) := by decide +kernel
theorem dX10_searchOrders_173 : decode cX10_searchOrders 173 = .ok (.iload_n 1, 1) := by decide +kernel
theorem dX10_searchOrders_174 : decode cX10_searchOrders 174 = .ok (.iconst 1, 1) := by decide +kernel
theorem dX10_searchOrders_175 : decode cX10_searchOrders 175 = .ok (.iadd, 1) := by decide +kernel
theorem dX10_searchOrders_176 : decode cX10_searchOrders 176 = .ok (.aload_n 0, 1) := by decide +kernel
theorem dX10_searchOrders_177 : decode cX10_searchOrders 177 = .ok (.getfield 40, 3) := by decide +kernel
theorem dX10_searchOrders_180 : decode cX10_searchOrders 180 = .ok (.getfield 254, 3) := by decide +kernel
theorem dX10_searchOrders_183 : decode cX10_searchOrders 183 = .ok (.iload_n 1, 1) := by decide +kernel
theorem dX10_searchOrders_184 : decode cX10_searchOrders 184 = .ok (.aaload, 1) := by decide +kernel
theorem dX10_searchOrders_185 : decode cX10_searchOrders 185 = .ok (.iload 8, 2) := by decide +kernel
theorem dX10_searchOrders_187 : decode cX10_searchOrders 187 = .ok (.invokevirtual 185, 3) := by decide +kernel
theorem dX10_searchOrders_190 : decode cX10_searchOrders 190 = .ok (.iinc 5 1, 3) := by decide +kernel
theorem dX10_searchOrders_193 : decode cX10_searchOrders 193 = .ok (.goto (-187), 3) := by decide +kernel
theorem dX10_searchOrders_196 : decode cX10_searchOrders 196 = .ok (.iload 4, 2) := by decide +kernel
theorem dX10_searchOrders_198 : decode cX10_searchOrders 198 = .ok (.ifCond .ne 23, 3) := by decide +kernel
theorem dX10_searchOrders_201 : decode cX10_searchOrders 201 = .ok (.aload_n 0, 1) := by decide +kernel
theorem dX10_searchOrders_202 : decode cX10_searchOrders 202 = .ok (.getfield 40, 3) := by decide +kernel
theorem dX10_searchOrders_205 : decode cX10_searchOrders 205 = .ok (.iload_n 3, 1) := by decide +kernel
theorem dX10_searchOrders_206 : decode cX10_searchOrders 206 = .ok (.invokevirtual 251, 3) := by decide +kernel
theorem dX10_searchOrders_209 : decode cX10_searchOrders 209 = .ok (.ifCond .eq 12, 3) := by decide +kernel
theorem dX10_searchOrders_212 : decode cX10_searchOrders 212 = .ok (.aload_n 0, 1) := by decide +kernel
theorem dX10_searchOrders_213 : decode cX10_searchOrders 213 = .ok (.getfield 40, 3) := by decide +kernel
theorem dX10_searchOrders_216 : decode cX10_searchOrders 216 = .ok (.iload_n 1, 1) := by decide +kernel
theorem dX10_searchOrders_217 : decode cX10_searchOrders 217 = .ok (.iload_n 3, 1) := by decide +kernel
theorem dX10_searchOrders_218 : decode cX10_searchOrders 218 = .ok (.invokevirtual 264, 3) := by decide +kernel
theorem dX10_searchOrders_221 : decode cX10_searchOrders 221 = .ok (.return_, 1) := by decide +kernel
theorem dX10_uncovered_0 : decode cX10_uncovered 0 = .ok (.iconst 0, 1) := by decide +kernel
theorem dX10_uncovered_1 : decode cX10_uncovered 1 = .ok (.istore_n 1, 1) := by decide +kernel
theorem dX10_uncovered_2 : decode cX10_uncovered 2 = .ok (.iconst 0, 1) := by decide +kernel
theorem dX10_uncovered_3 : decode cX10_uncovered 3 = .ok (.istore_n 2, 1) := by decide +kernel
theorem dX10_uncovered_4 : decode cX10_uncovered 4 = .ok (.iload_n 2, 1) := by decide +kernel
theorem dX10_uncovered_5 : decode cX10_uncovered 5 = .ok (.aload_n 0, 1) := by decide +kernel
theorem dX10_uncovered_6 : decode cX10_uncovered 6 = .ok (.getfield 53, 3) := by decide +kernel
theorem dX10_uncovered_9 : decode cX10_uncovered 9 = .ok (.getfield 214, 3) := by decide +kernel
theorem dX10_uncovered_12 : decode cX10_uncovered 12 = .ok (.if_icmp .ge 23, 3) := by decide +kernel
theorem dX10_uncovered_15 : decode cX10_uncovered 15 = .ok (.aload_n 0, 1) := by decide +kernel
theorem dX10_uncovered_16 : decode cX10_uncovered 16 = .ok (.getfield 26, 3) := by decide +kernel
theorem dX10_uncovered_19 : decode cX10_uncovered 19 = .ok (.iload_n 2, 1) := by decide +kernel
theorem dX10_uncovered_20 : decode cX10_uncovered 20 = .ok (.invokevirtual 133, 3) := by decide +kernel
theorem dX10_uncovered_23 : decode cX10_uncovered 23 = .ok (.ifCond .ne 6, 3) := by decide +kernel
theorem dX10_uncovered_26 : decode cX10_uncovered 26 = .ok (.iinc 1 1, 3) := by decide +kernel
theorem dX10_uncovered_29 : decode cX10_uncovered 29 = .ok (.iinc 2 1, 3) := by decide +kernel
theorem dX10_uncovered_32 : decode cX10_uncovered 32 = .ok (.goto (-28), 3) := by decide +kernel
theorem dX10_uncovered_35 : decode cX10_uncovered 35 = .ok (.iload_n 1, 1) := by decide +kernel
theorem dX10_uncovered_36 : decode cX10_uncovered 36 = .ok (.ireturn, 1) := by decide +kernel
theorem dX10_isLine_0 : decode cX10_isLine 0 = .ok (.iload_n 1, 1) := by decide +kernel
theorem dX10_isLine_1 : decode cX10_isLine 1 = .ok (.ifCond .lt 18, 3) := by decide +kernel
theorem dX10_isLine_4 : decode cX10_isLine 4 = .ok (.iload_n 1, 1) := by decide +kernel
theorem dX10_isLine_5 : decode cX10_isLine 5 = .ok (.aload_n 0, 1) := by decide +kernel
theorem dX10_isLine_6 : decode cX10_isLine 6 = .ok (.getfield 53, 3) := by decide +kernel
theorem dX10_isLine_9 : decode cX10_isLine 9 = .ok (.getfield 214, 3) := by decide +kernel
theorem dX10_isLine_12 : decode cX10_isLine 12 = .ok (.if_icmp .ge 7, 3) := by decide +kernel
theorem dX10_isLine_15 : decode cX10_isLine 15 = .ok (.iconst 1, 1) := by decide +kernel
theorem dX10_isLine_16 : decode cX10_isLine 16 = .ok (.goto 4, 3) := by decide +kernel
theorem dX10_isLine_19 : decode cX10_isLine 19 = .ok (.iconst 0, 1) := by decide +kernel
theorem dX10_isLine_20 : decode cX10_isLine 20 = .ok (.ireturn, 1) := by decide +kernel
theorem dX10_isColour_0 : decode cX10_isColour 0 = .ok (.iload_n 0, 1) := by decide +kernel
theorem dX10_isColour_1 : decode cX10_isColour 1 = .ok (.ifCond .lt 12, 3) := by decide +kernel
theorem dX10_isColour_4 : decode cX10_isColour 4 = .ok (.iload_n 0, 1) := by decide +kernel
theorem dX10_isColour_5 : decode cX10_isColour 5 = .ok (.iconst 3, 1) := by decide +kernel
theorem dX10_isColour_6 : decode cX10_isColour 6 = .ok (.if_icmp .ge 7, 3) := by decide +kernel
theorem dX10_isColour_9 : decode cX10_isColour 9 = .ok (.iconst 1, 1) := by decide +kernel
theorem dX10_isColour_10 : decode cX10_isColour 10 = .ok (.goto 4, 3) := by decide +kernel
theorem dX10_isColour_13 : decode cX10_isColour 13 = .ok (.iconst 0, 1) := by decide +kernel
theorem dX10_isColour_14 : decode cX10_isColour 14 = .ok (.ireturn, 1) := by decide +kernel
theorem dX10_isOnGround_0 : decode cX10_isOnGround 0 = .ok (.iload_n 0, 1) := by decide +kernel
theorem dX10_isOnGround_1 : decode cX10_isOnGround 1 = .ok (.ifCond .lt 23, 3) := by decide +kernel
theorem dX10_isOnGround_4 : decode cX10_isOnGround 4 = .ok (.iload_n 0, 1) := by decide +kernel
theorem dX10_isOnGround_5 : decode cX10_isOnGround 5 = .ok (.bipush 20, 2) := by decide +kernel
theorem dX10_isOnGround_7 : decode cX10_isOnGround 7 = .ok (.if_icmp .ge 17, 3) := by decide +kernel
theorem dX10_isOnGround_10 : decode cX10_isOnGround 10 = .ok (.iload_n 1, 1) := by decide +kernel
theorem dX10_isOnGround_11 : decode cX10_isOnGround 11 = .ok (.ifCond .lt 13, 3) := by decide +kernel
theorem dX10_isOnGround_14 : decode cX10_isOnGround 14 = .ok (.iload_n 1, 1) := by decide +kernel
theorem dX10_isOnGround_15 : decode cX10_isOnGround 15 = .ok (.bipush 20, 2) := by decide +kernel
theorem dX10_isOnGround_17 : decode cX10_isOnGround 17 = .ok (.if_icmp .ge 7, 3) := by decide +kernel
theorem dX10_isOnGround_20 : decode cX10_isOnGround 20 = .ok (.iconst 1, 1) := by decide +kernel
theorem dX10_isOnGround_21 : decode cX10_isOnGround 21 = .ok (.goto 4, 3) := by decide +kernel
theorem dX10_isOnGround_24 : decode cX10_isOnGround 24 = .ok (.iconst 0, 1) := by decide +kernel
theorem dX10_isOnGround_25 : decode cX10_isOnGround 25 = .ok (.ireturn, 1) := by decide +kernel
theorem dX11_init_0 : decode cX11_init 0 = .ok (.aload_n 0, 1) := by decide +kernel
theorem dX11_init_1 : decode cX11_init 1 = .ok (.invokespecial 1, 3) := by decide +kernel
theorem dX11_init_4 : decode cX11_init 4 = .ok (.aload_n 0, 1) := by decide +kernel
theorem dX11_init_5 : decode cX11_init 5 = .ok (.sipush 433, 3) := by decide +kernel
theorem dX11_init_8 : decode cX11_init 8 = .ok (.newarray .int, 2) := by decide +kernel
theorem dX11_init_10 : decode cX11_init 10 = .ok (.putfield 7, 3) := by decide +kernel
theorem dX11_init_13 : decode cX11_init 13 = .ok (.aload_n 0, 1) := by decide +kernel
theorem dX11_init_14 : decode cX11_init 14 = .ok (.sipush 433, 3) := by decide +kernel
theorem dX11_init_17 : decode cX11_init 17 = .ok (.newarray .int, 2) := by decide +kernel
theorem dX11_init_19 : decode cX11_init 19 = .ok (.putfield 13, 3) := by decide +kernel
theorem dX11_init_22 : decode cX11_init 22 = .ok (.aload_n 0, 1) := by decide +kernel
theorem dX11_init_23 : decode cX11_init 23 = .ok (.sipush 2598, 3) := by decide +kernel
theorem dX11_init_26 : decode cX11_init 26 = .ok (.newarray .int, 2) := by decide +kernel
theorem dX11_init_28 : decode cX11_init 28 = .ok (.putfield 16, 3) := by decide +kernel
theorem dX11_init_31 : decode cX11_init 31 = .ok (.aload_n 0, 1) := by decide +kernel
theorem dX11_init_32 : decode cX11_init 32 = .ok (.sipush 200, 3) := by decide +kernel
theorem dX11_init_35 : decode cX11_init 35 = .ok (.newarray .int, 2) := by decide +kernel
theorem dX11_init_37 : decode cX11_init 37 = .ok (.putfield 19, 3) := by decide +kernel
theorem dX11_init_40 : decode cX11_init 40 = .ok (.aload_n 0, 1) := by decide +kernel
theorem dX11_init_41 : decode cX11_init 41 = .ok (.iconst 3, 1) := by decide +kernel
theorem dX11_init_42 : decode cX11_init 42 = .ok (.newarray .int, 2) := by decide +kernel
theorem dX11_init_44 : decode cX11_init 44 = .ok (.putfield 22, 3) := by decide +kernel
theorem dX11_init_47 : decode cX11_init 47 = .ok (.aload_n 0, 1) := by decide +kernel
theorem dX11_init_48 : decode cX11_init 48 = .ok (.bipush 9, 2) := by decide +kernel
theorem dX11_init_50 : decode cX11_init 50 = .ok (.newarray .int, 2) := by decide +kernel
theorem dX11_init_52 : decode cX11_init 52 = .ok (.putfield 25, 3) := by decide +kernel
theorem dX11_init_55 : decode cX11_init 55 = .ok (.aload_n 0, 1) := by decide +kernel
theorem dX11_init_56 : decode cX11_init 56 = .ok (.iconst 3, 1) := by decide +kernel
theorem dX11_init_57 : decode cX11_init 57 = .ok (.newarray .int, 2) := by decide +kernel
theorem dX11_init_59 : decode cX11_init 59 = .ok (.putfield 28, 3) := by decide +kernel
theorem dX11_init_62 : decode cX11_init 62 = .ok (.aload_n 0, 1) := by decide +kernel
theorem dX11_init_63 : decode cX11_init 63 = .ok (.bipush 15, 2) := by decide +kernel
theorem dX11_init_65 : decode cX11_init 65 = .ok (.newarray .int, 2) := by decide +kernel
theorem dX11_init_67 : decode cX11_init 67 = .ok (.putfield 31, 3) := by decide +kernel
theorem dX11_init_70 : decode cX11_init 70 = .ok (.aload_n 0, 1) := by decide +kernel
theorem dX11_init_71 : decode cX11_init 71 = .ok (.iconst 3, 1) := by decide +kernel
theorem dX11_init_72 : decode cX11_init 72 = .ok (.newarray .int, 2) := by decide +kernel
theorem dX11_init_74 : decode cX11_init 74 = .ok (.putfield 34, 3) := by decide +kernel
theorem dX11_init_77 : decode cX11_init 77 = .ok (.aload_n 0, 1) := by decide +kernel
theorem dX11_init_78 : decode cX11_init 78 = .ok (.sipush 180, 3) := by decide +kernel
theorem dX11_init_81 : decode cX11_init 81 = .ok (.newarray .int, 2) := by decide +kernel
theorem dX11_init_83 : decode cX11_init 83 = .ok (.putfield 37, 3) := by decide +kernel
theorem dX11_init_86 : decode cX11_init 86 = .ok (.aload_n 0, 1) := by decide +kernel
theorem dX11_init_87 : decode cX11_init 87 = .ok (.iconst 3, 1) := by decide +kernel
theorem dX11_init_88 : decode cX11_init 88 = .ok (.newarray .int, 2) := by decide +kernel
theorem dX11_init_90 : decode cX11_init 90 = .ok (.putfield 40, 3) := by decide +kernel
theorem dX11_init_93 : decode cX11_init 93 = .ok (.aload_n 0, 1) := by decide +kernel
theorem dX11_init_94 : decode cX11_init 94 = .ok (.iconst 3, 1) := by decide +kernel
theorem dX11_init_95 : decode cX11_init 95 = .ok (.newarray .int, 2) := by decide +kernel
theorem dX11_init_97 : decode cX11_init 97 = .ok (.putfield 43, 3) := by decide +kernel
theorem dX11_init_100 : decode cX11_init 100 = .ok (.aload_n 0, 1) := by decide +kernel
theorem dX11_init_101 : decode cX11_init 101 = .ok (.bipush 15, 2) := by decide +kernel
theorem dX11_init_103 : decode cX11_init 103 = .ok (.newarray .int, 2) := by decide +kernel
theorem dX11_init_105 : decode cX11_init 105 = .ok (.putfield 46, 3) := by decide +kernel
theorem dX11_init_108 : decode cX11_init 108 = .ok (.aload_n 0, 1) := by decide +kernel
theorem dX11_init_109 : decode cX11_init 109 = .ok (.iconst 3, 1) := by decide +kernel
theorem dX11_init_110 : decode cX11_init 110 = .ok (.newarray .int, 2) := by decide +kernel
theorem dX11_init_112 : decode cX11_init 112 = .ok (.putfield 49, 3) := by decide +kernel
theorem dX11_init_115 : decode cX11_init 115 = .ok (.aload_n 0, 1) := by decide +kernel
theorem dX11_init_116 : decode cX11_init 116 = .ok (.sipush 180, 3) := by decide +kernel
theorem dX11_init_119 : decode cX11_init 119 = .ok (.newarray .int, 2) := by decide +kernel
theorem dX11_init_121 : decode cX11_init 121 = .ok (.putfield 52, 3) := by decide +kernel
theorem dX11_init_124 : decode cX11_init 124 = .ok (.aload_n 0, 1) := by decide +kernel
theorem dX11_init_125 : decode cX11_init 125 = .ok (.bipush 60, 2) := by decide +kernel
theorem dX11_init_127 : decode cX11_init 127 = .ok (.newarray .int, 2) := by decide +kernel
theorem dX11_init_129 : decode cX11_init 129 = .ok (.putfield 55, 3) := by decide +kernel
theorem dX11_init_132 : decode cX11_init 132 = .ok (.aload_n 0, 1) := by decide +kernel
theorem dX11_init_133 : decode cX11_init 133 = .ok (.bipush 60, 2) := by decide +kernel
theorem dX11_init_135 : decode cX11_init 135 = .ok (.newarray .boolean, 2) := by decide +kernel
theorem dX11_init_137 : decode cX11_init 137 = .ok (.putfield 58, 3) := by decide +kernel
theorem dX11_init_140 : decode cX11_init 140 = .ok (.aload_n 0, 1) := by decide +kernel
theorem dX11_init_141 : decode cX11_init 141 = .ok (.sipush 10633, 3) := by decide +kernel
theorem dX11_init_144 : decode cX11_init 144 = .ok (.newarray .int, 2) := by decide +kernel
theorem dX11_init_146 : decode cX11_init 146 = .ok (.putfield 62, 3) := by decide +kernel
