theorem dX3_init_30 : decode cX3_init 30 = .ok (.putfield 23, 3) := by decide +kernel
theorem dX3_init_33 : decode cX3_init 33 = .ok (.aload_n 0, 1) := by decide +kernel
theorem dX3_init_34 : decode cX3_init 34 = .ok (.new 27, 3) := by decide +kernel
theorem dX3_init_37 : decode cX3_init 37 = .ok (.dup, 1) := by decide +kernel
theorem dX3_init_38 : decode cX3_init 38 = .ok (.invokespecial 29, 3) := by decide +kernel
theorem dX3_init_41 : decode cX3_init 41 = .ok (.putfield 30, 3) := by decide +kernel
theorem dX3_init_44 : decode cX3_init 44 = .ok (.iconst 0, 1) := by decide +kernel
theorem dX3_init_45 : decode cX3_init 45 = .ok (.istore_n 1, 1) := by decide +kernel
theorem dX3_init_46 : decode cX3_init 46 = .ok (.iload_n 1, 1) := by decide +kernel
theorem dX3_init_47 : decode cX3_init 47 = .ok (.iconst 3, 1) := by decide +kernel
theorem dX3_init_48 : decode cX3_init 48 = .ok (.if_icmp .ge 22, 3) := by decide +kernel
theorem dX3_init_51 : decode cX3_init 51 = .ok (.aload_n 0, 1) := by decide +kernel
theorem dX3_init_52 : decode cX3_init 52 = .ok (.getfield 23, 3) := by decide +kernel
theorem dX3_init_55 : decode cX3_init 55 = .ok (.iload_n 1, 1) := by decide +kernel
theorem dX3_init_56 : decode cX3_init 56 = .ok (.new 21, 3) := by decide +kernel
theorem dX3_init_59 : decode cX3_init 59 = .ok (.dup, 1) := by decide +kernel
theorem dX3_init_60 : decode cX3_init 60 = .ok (.invokespecial 34, 3) := by decide +kernel
theorem dX3_init_63 : decode cX3_init 63 = .ok (.aastore, 1) := by decide +kernel
theorem dX3_init_64 : decode cX3_init 64 = .ok (.iinc 1 1, 3) := by decide +kernel
theorem dX3_init_67 : decode cX3_init 67 = .ok (.goto (-21), 3) := by decide +kernel
theorem dX3_init_70 : decode cX3_init 70 = .ok (.return_, 1) := by decide +kernel
theorem dX3_isFor_0 : decode cX3_isFor 0 = .ok (.aload_n 0, 1) := by decide +kernel
theorem dX3_isFor_1 : decode cX3_isFor 1 = .ok (.getfield 35, 3) := by decide +kernel
theorem dX3_isFor_4 : decode cX3_isFor 4 = .ok (.ifCond .eq 37, 3) := by decide +kernel
theorem dX3_isFor_7 : decode cX3_isFor 7 = .ok (.aload_n 0, 1) := by decide +kernel
theorem dX3_isFor_8 : decode cX3_isFor 8 = .ok (.getfield 9, 3) := by decide +kernel
theorem dX3_isFor_11 : decode cX3_isFor 11 = .ok (.iconst 0, 1) := by decide +kernel
theorem dX3_isFor_12 : decode cX3_isFor 12 = .ok (.iaload, 1) := by decide +kernel
theorem dX3_isFor_13 : decode cX3_isFor 13 = .ok (.iload_n 1, 1) := by decide +kernel
theorem dX3_isFor_14 : decode cX3_isFor 14 = .ok (.if_icmp .ne 27, 3) := by decide +kernel
theorem dX3_isFor_17 : decode cX3_isFor 17 = .ok (.aload_n 0, 1) := by decide +kernel
theorem dX3_isFor_18 : decode cX3_isFor 18 = .ok (.getfield 9, 3) := by decide +kernel
theorem dX3_isFor_21 : decode cX3_isFor 21 = .ok (.iconst 1, 1) := by decide +kernel
theorem dX3_isFor_22 : decode cX3_isFor 22 = .ok (.iaload, 1) := by decide +kernel
theorem dX3_isFor_23 : decode cX3_isFor 23 = .ok (.iload_n 2, 1) := by decide +kernel
theorem dX3_isFor_24 : decode cX3_isFor 24 = .ok (.if_icmp .ne 17, 3) := by decide +kernel
theorem dX3_isFor_27 : decode cX3_isFor 27 = .ok (.aload_n 0, 1) := by decide +kernel
theorem dX3_isFor_28 : decode cX3_isFor 28 = .ok (.getfield 9, 3) := by decide +kernel
theorem dX3_isFor_31 : decode cX3_isFor 31 = .ok (.iconst 2, 1) := by decide +kernel
theorem dX3_isFor_32 : decode cX3_isFor 32 = .ok (.iaload, 1) := by decide +kernel
theorem dX3_isFor_33 : decode cX3_isFor 33 = .ok (.iload_n 3, 1) := by decide +kernel
theorem dX3_isFor_34 : decode cX3_isFor 34 = .ok (.if_icmp .ne 7, 3) := by decide +kernel
theorem dX3_isFor_37 : decode cX3_isFor 37 = .ok (.iconst 1, 1) := by decide +kernel
theorem dX3_isFor_38 : decode cX3_isFor 38 = .ok (.goto 4, 3) := by decide +kernel
theorem dX3_isFor_41 : decode cX3_isFor 41 = .ok (.iconst 0, 1) := by decide +kernel
theorem dX3_isFor_42 : decode cX3_isFor 42 = .ok (.ireturn, 1) := by decide +kernel
theorem dX3_begin_0 : decode cX3_begin 0 = .ok (.aload_n 0, 1) := by decide +kernel
theorem dX3_begin_1 : decode cX3_begin 1 = .ok (.getfield 9, 3) := by decide +kernel
theorem dX3_begin_4 : decode cX3_begin 4 = .ok (.iconst 0, 1) := by decide +kernel
theorem dX3_begin_5 : decode cX3_begin 5 = .ok (.iload_n 1, 1) := by decide +kernel
theorem dX3_begin_6 : decode cX3_begin 6 = .ok (.iastore, 1) := by decide +kernel
theorem dX3_begin_7 : decode cX3_begin 7 = .ok (.aload_n 0, 1) := by decide +kernel
theorem dX3_begin_8 : decode cX3_begin 8 = .ok (.getfield 9, 3) := by decide +kernel
theorem dX3_begin_11 : decode cX3_begin 11 = .ok (.iconst 1, 1) := by decide +kernel
theorem dX3_begin_12 : decode cX3_begin 12 = .ok (.iload_n 2, 1) := by decide +kernel
theorem dX3_begin_13 : decode cX3_begin 13 = .ok (.iastore, 1) := by decide +kernel
theorem dX3_begin_14 : decode cX3_begin 14 = .ok (.aload_n 0, 1) := by decide +kernel
theorem dX3_begin_15 : decode cX3_begin 15 = .ok (.getfield 9, 3) := by decide +kernel
theorem dX3_begin_18 : decode cX3_begin 18 = .ok (.iconst 2, 1) := by decide +kernel
theorem dX3_begin_19 : decode cX3_begin 19 = .ok (.iload_n 3, 1) := by decide +kernel
theorem dX3_begin_20 : decode cX3_begin 20 = .ok (.iastore, 1) := by decide +kernel
theorem dX3_begin_21 : decode cX3_begin 21 = .ok (.aload_n 0, 1) := by decide +kernel
theorem dX3_begin_22 : decode cX3_begin 22 = .ok (.iconst 0, 1) := by decide +kernel
theorem dX3_begin_23 : decode cX3_begin 23 = .ok (.putfield 39, 3) := by decide +kernel
theorem dX3_begin_26 : decode cX3_begin 26 = .ok (.aload_n 0, 1) := by decide +kernel
theorem dX3_begin_27 : decode cX3_begin 27 = .ok (.iconst 0, 1) := by decide +kernel
theorem dX3_begin_28 : decode cX3_begin 28 = .ok (.putfield 43, 3) := by decide +kernel
theorem dX3_begin_31 : decode cX3_begin 31 = .ok (.aload_n 0, 1) := by decide +kernel
theorem dX3_begin_32 : decode cX3_begin 32 = .ok (.iconst 0, 1) := by decide +kernel
theorem dX3_begin_33 : decode cX3_begin 33 = .ok (.putfield 46, 3) := by decide +kernel
theorem dX3_begin_36 : decode cX3_begin 36 = .ok (.aload_n 0, 1) := by decide +kernel
theorem dX3_begin_37 : decode cX3_begin 37 = .ok (.iconst 1, 1) := by decide +kernel
theorem dX3_begin_38 : decode cX3_begin 38 = .ok (.putfield 35, 3) := by decide +kernel
theorem dX3_begin_41 : decode cX3_begin 41 = .ok (.return_, 1) := by decide +kernel
theorem dX3_isFewer_0 : decode cX3_isFewer 0 = .ok (.aload_n 0, 1) := by decide +kernel
theorem dX3_isFewer_1 : decode cX3_isFewer 1 = .ok (.getfield 46, 3) := by decide +kernel
theorem dX3_isFewer_4 : decode cX3_isFewer 4 = .ok (.ifCond .eq 11, 3) := by decide +kernel
theorem dX3_isFewer_7 : decode cX3_isFewer 7 = .ok (.iload_n 1, 1) := by decide +kernel
theorem dX3_isFewer_8 : decode cX3_isFewer 8 = .ok (.aload_n 0, 1) := by decide +kernel
theorem dX3_isFewer_9 : decode cX3_isFewer 9 = .ok (.getfield 43, 3) := by decide +kernel
theorem dX3_isFewer_12 : decode cX3_isFewer 12 = .ok (.if_icmp .ge 7, 3) := by decide +kernel
theorem dX3_isFewer_15 : decode cX3_isFewer 15 = .ok (.iconst 1, 1) := by decide +kernel
theorem dX3_isFewer_16 : decode cX3_isFewer 16 = .ok (.goto 4, 3) := by decide +kernel
theorem dX3_isFewer_19 : decode cX3_isFewer 19 = .ok (.iconst 0, 1) := by decide +kernel
theorem dX3_isFewer_20 : decode cX3_isFewer 20 = .ok (.ireturn, 1) := by decide +kernel
theorem dX3_keepTrial_0 : decode cX3_keepTrial 0 = .ok (.aload_n 0, 1) := by decide +kernel
theorem dX3_keepTrial_1 : decode cX3_keepTrial 1 = .ok (.getfield 15, 3) := by decide +kernel
theorem dX3_keepTrial_4 : decode cX3_keepTrial 4 = .ok (.iconst 0, 1) := by decide +kernel
theorem dX3_keepTrial_5 : decode cX3_keepTrial 5 = .ok (.aload_n 0, 1) := by decide +kernel
theorem dX3_keepTrial_6 : decode cX3_keepTrial 6 = .ok (.getfield 18, 3) := by decide +kernel
theorem dX3_keepTrial_9 : decode cX3_keepTrial 9 = .ok (.iconst 0, 1) := by decide +kernel
theorem dX3_keepTrial_10 : decode cX3_keepTrial 10 = .ok (.iload_n 1, 1) := by decide +kernel
theorem dX3_keepTrial_11 : decode cX3_keepTrial 11 = .ok (.invokestatic 49, 3) := by decide +kernel
theorem dX3_keepTrial_14 : decode cX3_keepTrial 14 = .ok (.aload_n 0, 1) := by decide +kernel
theorem dX3_keepTrial_15 : decode cX3_keepTrial 15 = .ok (.iload_n 1, 1) := by decide +kernel
theorem dX3_keepTrial_16 : decode cX3_keepTrial 16 = .ok (.putfield 39, 3) := by decide +kernel
theorem dX3_keepTrial_19 : decode cX3_keepTrial 19 = .ok (.aload_n 0, 1) := by decide +kernel
theorem dX3_keepTrial_20 : decode cX3_keepTrial 20 = .ok (.iload_n 2, 1) := by decide +kernel
theorem dX3_keepTrial_21 : decode cX3_keepTrial 21 = .ok (.putfield 43, 3) := by decide +kernel
theorem dX3_keepTrial_24 : decode cX3_keepTrial 24 = .ok (.aload_n 0, 1) := by decide +kernel
theorem dX3_keepTrial_25 : decode cX3_keepTrial 25 = .ok (.iconst 1, 1) := by decide +kernel
theorem dX3_keepTrial_26 : decode cX3_keepTrial 26 = .ok (.putfield 46, 3) := by decide +kernel
theorem dX3_keepTrial_29 : decode cX3_keepTrial 29 = .ok (.return_, 1) := by decide +kernel
theorem dX4_init_0 : decode cX4_init 0 = .ok (.aload_n 0, 1) := by decide +kernel
theorem dX4_init_1 : decode cX4_init 1 = .ok (.invokespecial 3, 3) := by decide +kernel
theorem dX4_init_4 : decode cX4_init 4 = .ok (.aload_n 0, 1) := by decide +kernel
theorem dX4_init_5 : decode cX4_init 5 = .ok (.bipush 6, 2) := by decide +kernel
theorem dX4_init_7 : decode cX4_init 7 = .ok (.anewarray 9, 3) := by decide +kernel
theorem dX4_init_10 : decode cX4_init 10 = .ok (.putfield 11, 3) := by decide +kernel
theorem dX4_init_13 : decode cX4_init 13 = .ok (.iconst 0, 1) := by decide +kernel
theorem dX4_init_14 : decode cX4_init 14 = .ok (.istore_n 1, 1) := by decide +kernel
theorem dX4_init_15 : decode cX4_init 15 = .ok (.iload_n 1, 1) := by decide +kernel
theorem dX4_init_16 : decode cX4_init 16 = .ok (.bipush 6, 2) := by decide +kernel
theorem dX4_init_18 : decode cX4_init 18 = .ok (.if_icmp .ge 22, 3) := by decide +kernel
theorem dX4_init_21 : decode cX4_init 21 = .ok (.aload_n 0, 1) := by decide +kernel
theorem dX4_init_22 : decode cX4_init 22 = .ok (.getfield 11, 3) := by decide +kernel
theorem dX4_init_25 : decode cX4_init 25 = .ok (.iload_n 1, 1) := by decide +kernel
theorem dX4_init_26 : decode cX4_init 26 = .ok (.new 9, 3) := by decide +kernel
theorem dX4_init_29 : decode cX4_init 29 = .ok (.dup, 1) := by decide +kernel
theorem dX4_init_30 : decode cX4_init 30 = .ok (.invokespecial 17, 3) := by decide +kernel
theorem dX4_init_33 : decode cX4_init 33 = .ok (.aastore, 1) := by decide +kernel
theorem dX4_init_34 : decode cX4_init 34 = .ok (.iinc 1 1, 3) := by decide +kernel
theorem dX4_init_37 : decode cX4_init 37 = .ok (.goto (-22), 3) := by decide +kernel
theorem dX4_init_40 : decode cX4_init 40 = .ok (.return_, 1) := by decide +kernel
theorem dX4_keep_0 : decode cX4_keep 0 = .ok (.aload_n 0, 1) := by decide +kernel
theorem dX4_keep_1 : decode cX4_keep 1 = .ok (.getfield 18, 3) := by decide +kernel
theorem dX4_keep_4 : decode cX4_keep 4 = .ok (.bipush 6, 2) := by decide +kernel
theorem dX4_keep_6 : decode cX4_keep 6 = .ok (.if_icmp .ne 7, 3) := by decide +kernel
theorem dX4_keep_9 : decode cX4_keep 9 = .ok (.aload_n 0, 1) := by decide +kernel
theorem dX4_keep_10 : decode cX4_keep 10 = .ok (.invokevirtual 22, 3) := by decide +kernel
theorem dX4_keep_13 : decode cX4_keep 13 = .ok (.aload_n 0, 1) := by decide +kernel
theorem dX4_keep_14 : decode cX4_keep 14 = .ok (.getfield 11, 3) := by decide +kernel
theorem dX4_keep_17 : decode cX4_keep 17 = .ok (.aload_n 0, 1) := by decide +kernel
theorem dX4_keep_18 : decode cX4_keep 18 = .ok (.getfield 18, 3) := by decide +kernel
theorem dX4_keep_21 : decode cX4_keep 21 = .ok (.aaload, 1) := by decide +kernel
theorem dX4_keep_22 : decode cX4_keep 22 = .ok (.aload_n 1, 1) := by decide +kernel
theorem dX4_keep_23 : decode cX4_keep 23 = .ok (.invokevirtual 25, 3) := by decide +kernel
theorem dX4_keep_26 : decode cX4_keep 26 = .ok (.aload_n 0, 1) := by decide +kernel
theorem dX4_keep_27 : decode cX4_keep 27 = .ok (.dup, 1) := by decide +kernel
theorem dX4_keep_28 : decode cX4_keep 28 = .ok (.getfield 18, 3) := by decide +kernel
theorem dX4_keep_31 : decode cX4_keep 31 = .ok (.iconst 1, 1) := by decide +kernel
theorem dX4_keep_32 : decode cX4_keep 32 = .ok (.iadd, 1) := by decide +kernel
theorem dX4_keep_33 : decode cX4_keep 33 = .ok (.putfield 18, 3) := by decide +kernel
theorem dX4_keep_36 : decode cX4_keep 36 = .ok (.return_, 1) := by decide +kernel
theorem dX4_giveBack_0 : decode cX4_giveBack 0 = .ok (.aload_n 0, 1) := by decide +kernel
theorem dX4_giveBack_1 : decode cX4_giveBack 1 = .ok (.getfield 18, 3) := by decide +kernel
theorem dX4_giveBack_4 : decode cX4_giveBack 4 = .ok (.ifCond .le 26, 3) := by decide +kernel
theorem dX4_giveBack_7 : decode cX4_giveBack 7 = .ok (.aload_n 0, 1) := by decide +kernel
theorem dX4_giveBack_8 : decode cX4_giveBack 8 = .ok (.dup, 1) := by decide +kernel
theorem dX4_giveBack_9 : decode cX4_giveBack 9 = .ok (.getfield 18, 3) := by decide +kernel
theorem dX4_giveBack_12 : decode cX4_giveBack 12 = .ok (.iconst 1, 1) := by decide +kernel
theorem dX4_giveBack_13 : decode cX4_giveBack 13 = .ok (.isub, 1) := by decide +kernel
theorem dX4_giveBack_14 : decode cX4_giveBack 14 = .ok (.putfield 18, 3) := by decide +kernel
theorem dX4_giveBack_17 : decode cX4_giveBack 17 = .ok (.aload_n 1, 1) := by decide +kernel
theorem dX4_giveBack_18 : decode cX4_giveBack 18 = .ok (.aload_n 0, 1) := by decide +kernel
theorem dX4_giveBack_19 : decode cX4_giveBack 19 = .ok (.getfield 11, 3) := by decide +kernel
theorem dX4_giveBack_22 : decode cX4_giveBack 22 = .ok (.aload_n 0, 1) := by decide +kernel
theorem dX4_giveBack_23 : decode cX4_giveBack 23 = .ok (.getfield 18, 3) := by decide +kernel
theorem dX4_giveBack_26 : decode cX4_giveBack 26 = .ok (.aaload, 1) := by decide +kernel
theorem dX4_giveBack_27 : decode cX4_giveBack 27 = .ok (.invokevirtual 25, 3) := by decide +kernel
theorem dX4_giveBack_30 : decode cX4_giveBack 30 = .ok (.return_, 1) := by decide +kernel
theorem dX4_dropOldest_0 : decode cX4_dropOldest 0 = .ok (.aload_n 0, 1) := by decide +kernel
theorem dX4_dropOldest_1 : decode cX4_dropOldest 1 = .ok (.getfield 11, 3) := by decide +kernel
theorem dX4_dropOldest_4 : decode cX4_dropOldest 4 = .ok (.iconst 0, 1) := by decide +kernel
theorem dX4_dropOldest_5 : decode cX4_dropOldest 5 = .ok (.aaload, 1) := by decide +kernel
theorem dX4_dropOldest_6 : decode cX4_dropOldest 6 = .ok (.astore_n 1, 1) := by decide +kernel
theorem dX4_dropOldest_7 : decode cX4_dropOldest 7 = .ok (.iconst 1, 1) := by decide +kernel
theorem dX4_dropOldest_8 : decode cX4_dropOldest 8 = .ok (.istore_n 2, 1) := by decide +kernel
theorem dX4_dropOldest_9 : decode cX4_dropOldest 9 = .ok (.iload_n 2, 1) := by decide +kernel
theorem dX4_dropOldest_10 : decode cX4_dropOldest 10 = .ok (.bipush 6, 2) := by decide +kernel
theorem dX4_dropOldest_12 : decode cX4_dropOldest 12 = .ok (.if_icmp .ge 23, 3) := by decide +kernel
theorem dX4_dropOldest_15 : decode cX4_dropOldest 15 = .ok (.aload_n 0, 1) := by decide +kernel
theorem dX4_dropOldest_16 : decode cX4_dropOldest 16 = .ok (.getfield 11, 3) := by decide +kernel
theorem dX4_dropOldest_19 : decode cX4_dropOldest 19 = .ok (.iload_n 2, 1) := by decide +kernel
theorem dX4_dropOldest_20 : decode cX4_dropOldest 20 = .ok (.iconst 1, 1) := by decide +kernel
theorem dX4_dropOldest_21 : decode cX4_dropOldest 21 = .ok (.isub, 1) := by decide +kernel
theorem dX4_dropOldest_22 : decode cX4_dropOldest 22 = .ok (.aload_n 0, 1) := by decide +kernel
theorem dX4_dropOldest_23 : decode cX4_dropOldest 23 = .ok (.getfield 11, 3) := by decide +kernel
theorem dX4_dropOldest_26 : decode cX4_dropOldest 26 = .ok (.iload_n 2, 1) := by decide +kernel
theorem dX4_dropOldest_27 : decode cX4_dropOldest 27 = .ok (.aaload, 1) := by decide +kernel
theorem dX4_dropOldest_28 : decode cX4_dropOldest 28 = .ok (.aastore, 1) := by decide +kernel
theorem dX4_dropOldest_29 : decode cX4_dropOldest 29 = .ok (.iinc 2 1, 3) := by decide +kernel
theorem dX4_dropOldest_32 : decode cX4_dropOldest 32 = .ok (.goto (-23), 3) := by decide +kernel
theorem dX4_dropOldest_35 : decode cX4_dropOldest 35 = .ok (.aload_n 0, 1) := by decide +kernel
theorem dX4_dropOldest_36 : decode cX4_dropOldest 36 = .ok (.getfield 11, 3) := by decide +kernel
theorem dX4_dropOldest_39 : decode cX4_dropOldest 39 = .ok (.iconst 5, 1) := by decide +kernel
theorem dX4_dropOldest_40 : decode cX4_dropOldest 40 = .ok (.aload_n 1, 1) := by decide +kernel
theorem dX4_dropOldest_41 : decode cX4_dropOldest 41 = .ok (.aastore, 1) := by decide +kernel
theorem dX4_dropOldest_42 : decode cX4_dropOldest 42 = .ok (.aload_n 0, 1) := by decide +kernel
theorem dX4_dropOldest_43 : decode cX4_dropOldest 43 = .ok (.dup, 1) := by decide +kernel
theorem dX4_dropOldest_44 : decode cX4_dropOldest 44 = .ok (.getfield 18, 3) := by decide +kernel
theorem dX4_dropOldest_47 : decode cX4_dropOldest 47 = .ok (.iconst 1, 1) := by decide +kernel
theorem dX4_dropOldest_48 : decode cX4_dropOldest 48 = .ok (.isub, 1) := by decide +kernel
theorem dX4_dropOldest_49 : decode cX4_dropOldest 49 = .ok (.putfield 18, 3) := by decide +kernel
theorem dX4_dropOldest_52 : decode cX4_dropOldest 52 = .ok (.return_, 1) := by decide +kernel
theorem dX5_init_0 : decode cX5_init 0 = .ok (.aload_n 0, 1) := by decide +kernel
theorem dX5_init_1 : decode cX5_init 1 = .ok (.invokespecial 3, 3) := by decide +kernel
theorem dX5_init_4 : decode cX5_init 4 = .ok (.aload_n 0, 1) := by decide +kernel
theorem dX5_init_5 : decode cX5_init 5 = .ok (.bipush 60, 2) := by decide +kernel
theorem dX5_init_7 : decode cX5_init 7 = .ok (.newarray .int, 2) := by decide +kernel
theorem dX5_init_9 : decode cX5_init 9 = .ok (.putfield 9, 3) := by decide +kernel
theorem dX5_init_12 : decode cX5_init 12 = .ok (.aload_n 0, 1) := by decide +kernel
theorem dX5_init_13 : decode cX5_init 13 = .ok (.iconst 5, 1) := by decide +kernel
theorem dX5_init_14 : decode cX5_init 14 = .ok (.newarray .int, 2) := by decide +kernel
theorem dX5_init_16 : decode cX5_init 16 = .ok (.putfield 15, 3) := by decide +kernel
theorem dX5_init_19 : decode cX5_init 19 = .ok (.return_, 1) := by decide +kernel
theorem dX5_begin_0 : decode cX5_begin 0 = .ok (.aload_n 0, 1) := by decide +kernel
theorem dX5_begin_1 : decode cX5_begin 1 = .ok (.iconst 0, 1) := by decide +kernel
theorem dX5_begin_2 : decode cX5_begin 2 = .ok (.putfield 18, 3) := by decide +kernel
theorem dX5_begin_5 : decode cX5_begin 5 = .ok (.aload_n 0, 1) := by decide +kernel
theorem dX5_begin_6 : decode cX5_begin 6 = .ok (.iconst 0, 1) := by decide +kernel
theorem dX5_begin_7 : decode cX5_begin 7 = .ok (.putfield 22, 3) := by decide +kernel
theorem dX5_begin_10 : decode cX5_begin 10 = .ok (.aload_n 0, 1) := by decide +kernel
theorem dX5_begin_11 : decode cX5_begin 11 = .ok (.iload_n 1, 1) := by decide +kernel
theorem dX5_begin_12 : decode cX5_begin 12 = .ok (.putfield 25, 3) := by decide +kernel
theorem dX5_begin_15 : decode cX5_begin 15 = .ok (.aload_n 0, 1) := by decide +kernel
theorem dX5_begin_16 : decode cX5_begin 16 = .ok (.iload_n 2, 1) := by decide +kernel
theorem dX5_begin_17 : decode cX5_begin 17 = .ok (.putfield 28, 3) := by decide +kernel
theorem dX5_begin_20 : decode cX5_begin 20 = .ok (.return_, 1) := by decide +kernel
theorem dX5_go_0 : decode cX5_go 0 = .ok (.iload_n 1, 1) := by decide +kernel
theorem dX5_go_1 : decode cX5_go 1 = .ok (.ifCond .eq 7, 3) := by decide +kernel
theorem dX5_go_4 : decode cX5_go 4 = .ok (.iconst 1, 1) := by decide +kernel
theorem dX5_go_5 : decode cX5_go 5 = .ok (.goto 4, 3) := by decide +kernel
theorem dX5_go_8 : decode cX5_go 8 = .ok (.iconst 0, 1) := by decide +kernel
theorem dX5_go_9 : decode cX5_go 9 = .ok (.istore 6, 2) := by decide +kernel
theorem dX5_go_11 : decode cX5_go 11 = .ok (.aload_n 0, 1) := by decide +kernel
theorem dX5_go_12 : decode cX5_go 12 = .ok (.getfield 22, 3) := by decide +kernel
theorem dX5_go_15 : decode cX5_go 15 = .ok (.iconst 5, 1) := by decide +kernel
theorem dX5_go_16 : decode cX5_go 16 = .ok (.if_icmp .ge 19, 3) := by decide +kernel
theorem dX5_go_19 : decode cX5_go 19 = .ok (.aload_n 0, 1) := by decide +kernel
theorem dX5_go_20 : decode cX5_go 20 = .ok (.getfield 22, 3) := by decide +kernel
theorem dX5_go_23 : decode cX5_go 23 = .ok (.ifCond .le 14, 3) := by decide +kernel
theorem dX5_go_26 : decode cX5_go 26 = .ok (.iload 6, 2) := by decide +kernel
theorem dX5_go_28 : decode cX5_go 28 = .ok (.aload_n 0, 1) := by decide +kernel
theorem dX5_go_29 : decode cX5_go 29 = .ok (.getfield 31, 3) := by decide +kernel
theorem dX5_go_32 : decode cX5_go 32 = .ok (.if_icmp .ne 5, 3) := by decide +kernel
theorem dX5_go_35 : decode cX5_go 35 = .ok (.iconst 0, 1) := by decide +kernel
theorem dX5_go_36 : decode cX5_go 36 = .ok (.ireturn, 1) := by decide +kernel
theorem dX5_go_37 : decode cX5_go 37 = .ok (.iconst 0, 1) := by decide +kernel
theorem dX5_go_38 : decode cX5_go 38 = .ok (.istore 7, 2) := by decide +kernel
theorem dX5_go_40 : decode cX5_go 40 = .ok (.iload 7, 2) := by decide +kernel
theorem dX5_go_42 : decode cX5_go 42 = .ok (.iload_n 3, 1) := by decide +kernel
theorem dX5_go_43 : decode cX5_go 43 = .ok (.if_icmp .ge 119, 3) := by decide +kernel
theorem dX5_go_46 : decode cX5_go 46 = .ok (.aload_n 0, 1) := by decide +kernel
theorem dX5_go_47 : decode cX5_go 47 = .ok (.getfield 18, 3) := by decide +kernel
theorem dX5_go_50 : decode cX5_go 50 = .ok (.ifCond .le 23, 3) := by decide +kernel
theorem dX5_go_53 : decode cX5_go 53 = .ok (.aload_n 0, 1) := by decide +kernel
theorem dX5_go_54 : decode cX5_go 54 = .ok (.dup, 1) := by decide +kernel
theorem dX5_go_55 : decode cX5_go 55 = .ok (.getfield 25, 3) := by decide +kernel
theorem dX5_go_58 : decode cX5_go 58 = .ok (.iload_n 1, 1) := by decide +kernel
theorem dX5_go_59 : decode cX5_go 59 = .ok (.iadd, 1) := by decide +kernel
theorem dX5_go_60 : decode cX5_go 60 = .ok (.putfield 25, 3) := by decide +kernel
theorem dX5_go_63 : decode cX5_go 63 = .ok (.aload_n 0, 1) := by decide +kernel
theorem dX5_go_64 : decode cX5_go 64 = .ok (.dup, 1) := by decide +kernel
theorem dX5_go_65 : decode cX5_go 65 = .ok (.getfield 28, 3) := by decide +kernel
theorem dX5_go_68 : decode cX5_go 68 = .ok (.iload_n 2, 1) := by decide +kernel
theorem dX5_go_69 : decode cX5_go 69 = .ok (.iadd, 1) := by decide +kernel
theorem dX5_go_70 : decode cX5_go 70 = .ok (.putfield 28, 3) := by decide +kernel
theorem dX5_go_73 : decode cX5_go 73 = .ok (.aload_n 0, 1) := by decide +kernel
theorem dX5_go_74 : decode cX5_go 74 = .ok (.getfield 18, 3) := by decide +kernel
theorem dX5_go_77 : decode cX5_go 77 = .ok (.bipush 60, 2) := by decide +kernel
theorem dX5_go_79 : decode cX5_go 79 = .ok (.if_icmp .ge 17, 3) := by decide +kernel
theorem dX5_go_82 : decode cX5_go 82 = .ok (.aload_n 0, 1) := by decide +kernel
theorem dX5_go_83 : decode cX5_go 83 = .ok (.getfield 25, 3) := by decide +kernel
theorem dX5_go_86 : decode cX5_go 86 = .ok (.aload_n 0, 1) := by decide +kernel
theorem dX5_go_87 : decode cX5_go 87 = .ok (.getfield 28, 3) := by decide +kernel
theorem dX5_go_90 : decode cX5_go 90 = .ok (.invokestatic 35, 3) := by decide +kernel
theorem dX5_go_93 : decode cX5_go 93 = .ok (.ifCond .ne 5, 3) := by decide +kernel
theorem dX5_go_96 : decode cX5_go 96 = .ok (.iconst 0, 1) := by decide +kernel
theorem dX5_go_97 : decode cX5_go 97 = .ok (.ireturn, 1) := by decide +kernel
theorem dX5_go_98 : decode cX5_go 98 = .ok (.bipush 20, 2) := by decide +kernel
theorem dX5_go_100 : decode cX5_go 100 = .ok (.aload_n 0, 1) := by decide +kernel
theorem dX5_go_101 : decode cX5_go 101 = .ok (.getfield 28, 3) := by decide +kernel
theorem dX5_go_104 : decode cX5_go 104 = .ok (.imul, 1) := by decide +kernel
theorem dX5_go_105 : decode cX5_go 105 = .ok (.aload_n 0, 1) := by decide +kernel
theorem dX5_go_106 : decode cX5_go 106 = .ok (.getfield 25, 3) := by decide +kernel
theorem dX5_go_109 : decode cX5_go 109 = .ok (.iadd, 1) := by decide +kernel
theorem dX5_go_110 : decode cX5_go 110 = .ok (.istore 8, 2) := by decide +kernel
theorem dX5_go_112 : decode cX5_go 112 = .ok (.aload 4, 2) := by decide +kernel
theorem dX5_go_114 : decode cX5_go 114 = .ok (.iload 8, 2) := by decide +kernel
theorem dX5_go_116 : decode cX5_go 116 = .ok (.iaload, 1) := by decide +kernel
theorem dX5_go_117 : decode cX5_go 117 = .ok (.iload 5, 2) := by decide +kernel
theorem dX5_go_119 : decode cX5_go 119 = .ok (.iand, 1) := by decide +kernel
theorem dX5_go_120 : decode cX5_go 120 = .ok (.ifCond .eq 5, 3) := by decide +kernel
theorem dX5_go_123 : decode cX5_go 123 = .ok (.iconst 0, 1) := by decide +kernel
theorem dX5_go_124 : decode cX5_go 124 = .ok (.ireturn, 1) := by decide +kernel
theorem dX5_go_125 : decode cX5_go 125 = .ok (.aload 4, 2) := by decide +kernel
theorem dX5_go_127 : decode cX5_go 127 = .ok (.iload 8, 2) := by decide +kernel
theorem dX5_go_129 : decode cX5_go 129 = .ok (.dup2, 1) := by decide +kernel
theorem dX5_go_130 : decode cX5_go 130 = .ok (.iaload, 1) := by decide +kernel
theorem dX5_go_131 : decode cX5_go 131 = .ok (.iload 5, 2) := by decide +kernel
theorem dX5_go_133 : decode cX5_go 133 = .ok (.ior, 1) := by decide +kernel
theorem dX5_go_134 : decode cX5_go 134 = .ok (.iastore, 1) := by decide +kernel
theorem dX5_go_135 : decode cX5_go 135 = .ok (.aload_n 0, 1) := by decide +kernel
theorem dX5_go_136 : decode cX5_go 136 = .ok (.getfield 9, 3) := by decide +kernel
theorem dX5_go_139 : decode cX5_go 139 = .ok (.aload_n 0, 1) := by decide +kernel
theorem dX5_go_140 : decode cX5_go 140 = .ok (.getfield 18, 3) := by decide +kernel
theorem dX5_go_143 : decode cX5_go 143 = .ok (.iload 8, 2) := by decide +kernel
theorem dX5_go_145 : decode cX5_go 145 = .ok (.iastore, 1) := by decide +kernel
theorem dX5_go_146 : decode cX5_go 146 = .ok (.aload_n 0, 1) := by decide +kernel
theorem dX5_go_147 : decode cX5_go 147 = .ok (.dup, 1) := by decide +kernel
theorem dX5_go_148 : decode cX5_go 148 = .ok (.getfield 18, 3) := by decide +kernel
theorem dX5_go_151 : decode cX5_go 151 = .ok (.iconst 1, 1) := by decide +kernel
theorem dX5_go_152 : decode cX5_go 152 = .ok (.iadd, 1) := by decide +kernel
theorem dX5_go_153 : decode cX5_go 153 = .ok (.putfield 18, 3) := by decide +kernel
theorem dX5_go_156 : decode cX5_go 156 = .ok (.iinc 7 1, 3) := by decide +kernel
theorem dX5_go_159 : decode cX5_go 159 = .ok (.goto (-119), 3) := by decide +kernel
theorem dX5_go_162 : decode cX5_go 162 = .ok (.aload_n 0, 1) := by decide +kernel
theorem dX5_go_163 : decode cX5_go 163 = .ok (.iload 6, 2) := by decide +kernel
theorem dX5_go_165 : decode cX5_go 165 = .ok (.putfield 31, 3) := by decide +kernel
theorem dX5_go_168 : decode cX5_go 168 = .ok (.aload_n 0, 1) := by decide +kernel
theorem dX5_go_169 : decode cX5_go 169 = .ok (.getfield 15, 3) := by decide +kernel
theorem dX5_go_172 : decode cX5_go 172 = .ok (.aload_n 0, 1) := by decide +kernel
theorem dX5_go_173 : decode cX5_go 173 = .ok (.getfield 22, 3) := by decide +kernel
theorem dX5_go_176 : decode cX5_go 176 = .ok (.aload_n 0, 1) := by decide +kernel
theorem dX5_go_177 : decode cX5_go 177 = .ok (.getfield 18, 3) := by decide +kernel
theorem dX5_go_180 : decode cX5_go 180 = .ok (.iconst 1, 1) := by decide +kernel
theorem dX5_go_181 : decode cX5_go 181 = .ok (.isub, 1) := by decide +kernel
theorem dX5_go_182 : decode cX5_go 182 = .ok (.iastore, 1) := by decide +kernel
theorem dX5_go_183 : decode cX5_go 183 = .ok (.aload_n 0, 1) := by decide +kernel
theorem dX5_go_184 : decode cX5_go 184 = .ok (.dup, 1) := by decide +kernel
theorem dX5_go_185 : decode cX5_go 185 = .ok (.getfield 22, 3) := by decide +kernel
theorem dX5_go_188 : decode cX5_go 188 = .ok (.iconst 1, 1) := by decide +kernel
theorem dX5_go_189 : decode cX5_go 189 = .ok (.iadd, 1) := by decide +kernel
theorem dX5_go_190 : decode cX5_go 190 = .ok (.putfield 22, 3) := by decide +kernel
theorem dX5_go_193 : decode cX5_go 193 = .ok (.iconst 1, 1) := by decide +kernel
theorem dX5_go_194 : decode cX5_go 194 = .ok (.ireturn, 1) := by decide +kernel
theorem dX6_init_0 : decode cX6_init 0 = .ok (.aload_n 0, 1) := by decide +kernel
theorem dX6_init_1 : decode cX6_init 1 = .ok (.invokespecial 3, 3) := by decide +kernel
theorem dX6_init_4 : decode cX6_init 4 = .ok (.aload_n 0, 1) := by decide +kernel
theorem dX6_init_5 : decode cX6_init 5 = .ok (.bipush 60, 2) := by decide +kernel
theorem dX6_init_7 : decode cX6_init 7 = .ok (.newarray .int, 2) := by decide +kernel
theorem dX6_init_9 : decode cX6_init 9 = .ok (.putfield 9, 3) := by decide +kernel
theorem dX6_init_12 : decode cX6_init 12 = .ok (.aload_n 0, 1) := by decide +kernel
theorem dX6_init_13 : decode cX6_init 13 = .ok (.bipush 60, 2) := by decide +kernel
theorem dX6_init_15 : decode cX6_init 15 = .ok (.newarray .boolean, 2) := by decide +kernel
theorem dX6_init_17 : decode cX6_init 17 = .ok (.putfield 15, 3) := by decide +kernel
theorem dX6_init_20 : decode cX6_init 20 = .ok (.return_, 1) := by decide +kernel
theorem dX6_split_0 : decode cX6_split 0 = .ok (.aload_n 0, 1) := by decide +kernel
theorem dX6_split_1 : decode cX6_split 1 = .ok (.iconst 0, 1) := by decide +kernel
theorem dX6_split_2 : decode cX6_split 2 = .ok (.putfield 19, 3) := by decide +kernel
theorem dX6_split_5 : decode cX6_split 5 = .ok (.iconst 0, 1) := by decide +kernel
theorem dX6_split_6 : decode cX6_split 6 = .ok (.istore_n 3, 1) := by decide +kernel
theorem dX6_split_7 : decode cX6_split 7 = .ok (.iconst 0, 1) := by decide +kernel
theorem dX6_split_8 : decode cX6_split 8 = .ok (.istore 4, 2) := by decide +kernel
theorem dX6_split_10 : decode cX6_split 10 = .ok (.iload 4, 2) := by decide +kernel
theorem dX6_split_12 : decode cX6_split 12 = .ok (.aload_n 1, 1) := by decide +kernel
theorem dX6_split_13 : decode cX6_split 13 = .ok (.getfield 23, 3) := by decide +kernel
theorem dX6_split_16 : decode cX6_split 16 = .ok (.if_icmp .ge 80, 3) := by decide +kernel
theorem dX6_split_19 : decode cX6_split 19 = .ok (.iconst 0, 1) := by decide +kernel
theorem dX6_split_20 : decode cX6_split 20 = .ok (.istore 5, 2) := by decide +kernel
theorem dX6_split_22 : decode cX6_split 22 = .ok (.iload_n 3, 1) := by decide +kernel
theorem dX6_split_23 : decode cX6_split 23 = .ok (.aload_n 1, 1) := by decide +kernel
theorem dX6_split_24 : decode cX6_split 24 = .ok (.getfield 28, 3) := by decide +kernel
theorem dX6_split_27 : decode cX6_split 27 = .ok (.iload 4, 2) := by decide +kernel
theorem dX6_split_29 : decode cX6_split 29 = .ok (.iaload, 1) := by decide +kernel
theorem dX6_split_30 : decode cX6_split 30 = .ok (.if_icmp .gt 38, 3) := by decide +kernel
theorem dX6_split_33 : decode cX6_split 33 = .ok (.aload_n 2, 1) := by decide +kernel
theorem dX6_split_34 : decode cX6_split 34 = .ok (.aload_n 1, 1) := by decide +kernel
theorem dX6_split_35 : decode cX6_split 35 = .ok (.getfield 31, 3) := by decide +kernel
theorem dX6_split_38 : decode cX6_split 38 = .ok (.iload_n 3, 1) := by decide +kernel
theorem dX6_split_39 : decode cX6_split 39 = .ok (.iaload, 1) := by decide +kernel
theorem dX6_split_40 : decode cX6_split 40 = .ok (.iaload, 1) := by decide +kernel
theorem dX6_split_41 : decode cX6_split 41 = .ok (.bipush (-4), 2) := by decide +kernel
theorem dX6_split_43 : decode cX6_split 43 = .ok (.if_icmp .ne 9, 3) := by decide +kernel
theorem dX6_split_46 : decode cX6_split 46 = .ok (.iinc 5 1, 3) := by decide +kernel
theorem dX6_split_49 : decode cX6_split 49 = .ok (.goto 13, 3) := by decide +kernel
theorem dX6_split_52 : decode cX6_split 52 = .ok (.aload_n 0, 1) := by decide +kernel
theorem dX6_split_53 : decode cX6_split 53 = .ok (.iload 5, 2) := by decide +kernel
theorem dX6_split_55 : decode cX6_split 55 = .ok (.iconst 0, 1) := by decide +kernel
theorem dX6_split_56 : decode cX6_split 56 = .ok (.invokevirtual 34, 3) := by decide +kernel
theorem dX6_split_59 : decode cX6_split 59 = .ok (.iconst 0, 1) := by decide +kernel
theorem dX6_split_60 : decode cX6_split 60 = .ok (.istore 5, 2) := by decide +kernel
theorem dX6_split_62 : decode cX6_split 62 = .ok (.iinc 3 1, 3) := by decide +kernel
theorem dX6_split_65 : decode cX6_split 65 = .ok (.goto (-43), 3) := by decide +kernel
theorem dX6_split_68 : decode cX6_split 68 = .ok (.aload_n 0, 1) := by decide +kernel
theorem dX6_split_69 : decode cX6_split 69 = .ok (.iload 5, 2) := by decide +kernel
theorem dX6_split_71 : decode cX6_split 71 = .ok (.iload 4, 2) := by decide +kernel
theorem dX6_split_73 : decode cX6_split 73 = .ok (.aload_n 1, 1) := by decide +kernel
theorem dX6_split_74 : decode cX6_split 74 = .ok (.getfield 23, 3) := by decide +kernel
theorem dX6_split_77 : decode cX6_split 77 = .ok (.iconst 1, 1) := by decide +kernel
theorem dX6_split_78 : decode cX6_split 78 = .ok (.isub, 1) := by decide +kernel
theorem dX6_split_79 : decode cX6_split 79 = .ok (.if_icmp .ge 7, 3) := by decide +kernel
theorem dX6_split_82 : decode cX6_split 82 = .ok (.iconst 1, 1) := by decide +kernel
theorem dX6_split_83 : decode cX6_split 83 = .ok (.goto 4, 3) := by decide +kernel
theorem dX6_split_86 : decode cX6_split 86 = .ok (.iconst 0, 1) := by decide +kernel
theorem dX6_split_87 : decode cX6_split 87 = .ok (.invokevirtual 34, 3) := by decide +kernel
theorem dX6_split_90 : decode cX6_split 90 = .ok (.iinc 4 1, 3) := by decide +kernel
theorem dX6_split_93 : decode cX6_split 93 = .ok (.goto (-83), 3) := by decide +kernel
theorem dX6_split_96 : decode cX6_split 96 = .ok (.return_, 1) := by decide +kernel
theorem dX6_add_0 : decode cX6_add 0 = .ok (.iload_n 1, 1) := by decide +kernel
theorem dX6_add_1 : decode cX6_add 1 = .ok (.ifCond .le 42, 3) := by decide +kernel
theorem dX6_add_4 : decode cX6_add 4 = .ok (.aload_n 0, 1) := by decide +kernel
theorem dX6_add_5 : decode cX6_add 5 = .ok (.getfield 19, 3) := by decide +kernel
theorem dX6_add_8 : decode cX6_add 8 = .ok (.bipush 60, 2) := by decide +kernel
theorem dX6_add_10 : decode cX6_add 10 = .ok (.if_icmp .ge 33, 3) := by decide +kernel
theorem dX6_add_13 : decode cX6_add 13 = .ok (.aload_n 0, 1) := by decide +kernel
theorem dX6_add_14 : decode cX6_add 14 = .ok (.getfield 9, 3) := by decide +kernel
theorem dX6_add_17 : decode cX6_add 17 = .ok (.aload_n 0, 1) := by decide +kernel
theorem dX6_add_18 : decode cX6_add 18 = .ok (.getfield 19, 3) := by decide +kernel
theorem dX6_add_21 : decode cX6_add 21 = .ok (.iload_n 1, 1) := by decide +kernel
theorem dX6_add_22 : decode cX6_add 22 = .ok (.iastore, 1) := by decide +kernel
theorem dX6_add_23 : decode cX6_add 23 = .ok (.aload_n 0, 1) := by decide +kernel
theorem dX6_add_24 : decode cX6_add 24 = .ok (.getfield 15, 3) := by decide +kernel
theorem dX6_add_27 : decode cX6_add 27 = .ok (.aload_n 0, 1) := by decide +kernel
theorem dX6_add_28 : decode cX6_add 28 = .ok (.getfield 19, 3) := by decide +kernel
theorem dX6_add_31 : decode cX6_add 31 = .ok (.iload_n 2, 1) := by decide +kernel
theorem dX6_add_32 : decode cX6_add 32 = .ok (.bastore, 1) := by decide +kernel
theorem dX6_add_33 : decode cX6_add 33 = .ok (.aload_n 0, 1) := by decide +kernel
theorem dX6_add_34 : decode cX6_add 34 = .ok (.dup, 1) := by decide +kernel
theorem dX6_add_35 : decode cX6_add 35 = .ok (.getfield 19, 3) := by decide +kernel
theorem dX6_add_38 : decode cX6_add 38 = .ok (.iconst 1, 1) := by decide +kernel
theorem dX6_add_39 : decode cX6_add 39 = .ok (.iadd, 1) := by decide +kernel
theorem dX6_add_40 : decode cX6_add 40 = .ok (.putfield 19, 3) := by decide +kernel
theorem dX6_add_43 : decode cX6_add 43 = .ok (.return_, 1) := by decide +kernel
theorem dX7_init_0 : decode cX7_init 0 = .ok (.aload_n 0, 1) := by decide +kernel
theorem dX7_init_1 : decode cX7_init 1 = .ok (.invokespecial 3, 3) := by decide +kernel
theorem dX7_init_4 : decode cX7_init 4 = .ok (.aload_n 0, 1) := by decide +kernel
theorem dX7_init_5 : decode cX7_init 5 = .ok (.iconst 3, 1) := by decide +kernel
theorem dX7_init_6 : decode cX7_init 6 = .ok (.newarray .int, 2) := by decide +kernel
theorem dX7_init_8 : decode cX7_init 8 = .ok (.putfield 9, 3) := by decide +kernel
theorem dX7_init_11 : decode cX7_init 11 = .ok (.aload_n 0, 1) := by decide +kernel
theorem dX7_init_12 : decode cX7_init 12 = .ok (.bipush 9, 2) := by decide +kernel
theorem dX7_init_14 : decode cX7_init 14 = .ok (.newarray .int, 2) := by decide +kernel
theorem dX7_init_16 : decode cX7_init 16 = .ok (.putfield 15, 3) := by decide +kernel
theorem dX7_init_19 : decode cX7_init 19 = .ok (.aload_n 0, 1) := by decide +kernel
theorem dX7_init_20 : decode cX7_init 20 = .ok (.iconst 3, 1) := by decide +kernel
theorem dX7_init_21 : decode cX7_init 21 = .ok (.anewarray 18, 3) := by decide +kernel
theorem dX7_init_24 : decode cX7_init 24 = .ok (.putfield 20, 3) := by decide +kernel
theorem dX7_init_27 : decode cX7_init 27 = .ok (.aload_n 0, 1) := by decide +kernel
theorem dX7_init_28 : decode cX7_init 28 = .ok (.sipush 400, 3) := by decide +kernel
theorem dX7_init_31 : decode cX7_init 31 = .ok (.newarray .int, 2) := by decide +kernel
theorem dX7_init_33 : decode cX7_init 33 = .ok (.putfield 24, 3) := by decide +kernel
theorem dX7_init_36 : decode cX7_init 36 = .ok (.iconst 0, 1) := by decide +kernel
theorem dX7_init_37 : decode cX7_init 37 = .ok (.istore_n 1, 1) := by decide +kernel
theorem dX7_init_38 : decode cX7_init 38 = .ok (.iload_n 1, 1) := by decide +kernel
theorem dX7_init_39 : decode cX7_init 39 = .ok (.iconst 3, 1) := by decide +kernel
theorem dX7_init_40 : decode cX7_init 40 = .ok (.if_icmp .ge 22, 3) := by decide +kernel
theorem dX7_init_43 : decode cX7_init 43 = .ok (.aload_n 0, 1) := by decide +kernel
theorem dX7_init_44 : decode cX7_init 44 = .ok (.getfield 20, 3) := by decide +kernel
theorem dX7_init_47 : decode cX7_init 47 = .ok (.iload_n 1, 1) := by decide +kernel
theorem dX7_init_48 : decode cX7_init 48 = .ok (.new 18, 3) := by decide +kernel
theorem dX7_init_51 : decode cX7_init 51 = .ok (.dup, 1) := by decide +kernel
theorem dX7_init_52 : decode cX7_init 52 = .ok (.invokespecial 27, 3) := by decide +kernel
theorem dX7_init_55 : decode cX7_init 55 = .ok (.aastore, 1) := by decide +kernel
theorem dX7_init_56 : decode cX7_init 56 = .ok (.iinc 1 1, 3) := by decide +kernel
theorem dX7_init_59 : decode cX7_init 59 = .ok (.goto (-21), 3) := by decide +kernel
theorem dX7_init_62 : decode cX7_init 62 = .ok (.return_, 1) := by decide +kernel
theorem dX7_clear_0 : decode cX7_clear 0 = .ok (.aload_n 0, 1) := by decide +kernel
theorem dX7_clear_1 : decode cX7_clear 1 = .ok (.getfield 9, 3) := by decide +kernel
theorem dX7_clear_4 : decode cX7_clear 4 = .ok (.iconst 0, 1) := by decide +kernel
theorem dX7_clear_5 : decode cX7_clear 5 = .ok (.iconst 2, 1) := by decide +kernel
theorem dX7_clear_6 : decode cX7_clear 6 = .ok (.iastore, 1) := by decide +kernel
theorem dX7_clear_7 : decode cX7_clear 7 = .ok (.aload_n 0, 1) := by decide +kernel
theorem dX7_clear_8 : decode cX7_clear 8 = .ok (.getfield 9, 3) := by decide +kernel
theorem dX7_clear_11 : decode cX7_clear 11 = .ok (.iconst 1, 1) := by decide +kernel
theorem dX7_clear_12 : decode cX7_clear 12 = .ok (.iconst 3, 1) := by decide +kernel
theorem dX7_clear_13 : decode cX7_clear 13 = .ok (.iastore, 1) := by decide +kernel
theorem dX7_clear_14 : decode cX7_clear 14 = .ok (.aload_n 0, 1) := by decide +kernel
theorem dX7_clear_15 : decode cX7_clear 15 = .ok (.getfield 9, 3) := by decide +kernel
theorem dX7_clear_18 : decode cX7_clear 18 = .ok (.iconst 2, 1) := by decide +kernel
theorem dX7_clear_19 : decode cX7_clear 19 = .ok (.iconst 5, 1) := by decide +kernel
theorem dX7_clear_20 : decode cX7_clear 20 = .ok (.iastore, 1) := by decide +kernel
theorem dX7_clear_21 : decode cX7_clear 21 = .ok (.aload_n 0, 1) := by decide +kernel
theorem dX7_clear_22 : decode cX7_clear 22 = .ok (.getfield 15, 3) := by decide +kernel
theorem dX7_clear_25 : decode cX7_clear 25 = .ok (.bipush 6, 2) := by decide +kernel
theorem dX7_clear_27 : decode cX7_clear 27 = .ok (.invokestatic 28, 3) := by decide +kernel
theorem dX7_clear_30 : decode cX7_clear 30 = .ok (.aload_n 0, 1) := by decide +kernel
theorem dX7_clear_31 : decode cX7_clear 31 = .ok (.getfield 24, 3) := by decide +kernel
theorem dX7_clear_34 : decode cX7_clear 34 = .ok (.iconst 0, 1) := by decide +kernel
theorem dX7_clear_35 : decode cX7_clear 35 = .ok (.invokestatic 28, 3) := by decide +kernel
theorem dX7_clear_38 : decode cX7_clear 38 = .ok (.aload_n 0, 1) := by decide +kernel
theorem dX7_clear_39 : decode cX7_clear 39 = .ok (.iconst 0, 1) := by decide +kernel
theorem dX7_clear_40 : decode cX7_clear 40 = .ok (.putfield 34, 3) := by decide +kernel
theorem dX7_clear_43 : decode cX7_clear 43 = .ok (.aload_n 0, 1) := by decide +kernel
theorem dX7_clear_44 : decode cX7_clear 44 = .ok (.iconst 0, 1) := by decide +kernel
theorem dX7_clear_45 : decode cX7_clear 45 = .ok (.putfield 38, 3) := by decide +kernel
theorem dX7_clear_48 : decode cX7_clear 48 = .ok (.return_, 1) := by decide +kernel
theorem dX7_goesOver_0 : decode cX7_goesOver 0 = .ok (.aload_n 0, 1) := by decide +kernel
theorem dX7_goesOver_1 : decode cX7_goesOver 1 = .ok (.getfield 24, 3) := by decide +kernel
theorem dX7_goesOver_4 : decode cX7_goesOver 4 = .ok (.iload_n 2, 1) := by decide +kernel
theorem dX7_goesOver_5 : decode cX7_goesOver 5 = .ok (.iaload, 1) := by decide +kernel
theorem dX7_goesOver_6 : decode cX7_goesOver 6 = .ok (.iconst 1, 1) := by decide +kernel
theorem dX7_goesOver_7 : decode cX7_goesOver 7 = .ok (.iload_n 1, 1) := by decide +kernel
theorem dX7_goesOver_8 : decode cX7_goesOver 8 = .ok (.ishl, 1) := by decide +kernel
theorem dX7_goesOver_9 : decode cX7_goesOver 9 = .ok (.iand, 1) := by decide +kernel
theorem dX7_goesOver_10 : decode cX7_goesOver 10 = .ok (.ifCond .eq 7, 3) := by decide +kernel
theorem dX7_goesOver_13 : decode cX7_goesOver 13 = .ok (.iconst 1, 1) := by decide +kernel
theorem dX7_goesOver_14 : decode cX7_goesOver 14 = .ok (.goto 4, 3) := by decide +kernel
theorem dX7_goesOver_17 : decode cX7_goesOver 17 = .ok (.iconst 0, 1) := by decide +kernel
theorem dX7_goesOver_18 : decode cX7_goesOver 18 = .ok (.ireturn, 1) := by decide +kernel
theorem dX7_sharedCells_0 : decode cX7_sharedCells 0 = .ok (.iconst 0, 1) := by decide +kernel
theorem dX7_sharedCells_1 : decode cX7_sharedCells 1 = .ok (.istore_n 1, 1) := by decide +kernel
theorem dX7_sharedCells_2 : decode cX7_sharedCells 2 = .ok (.iconst 0, 1) := by decide +kernel
theorem dX7_sharedCells_3 : decode cX7_sharedCells 3 = .ok (.istore_n 2, 1) := by decide +kernel
theorem dX7_sharedCells_4 : decode cX7_sharedCells 4 = .ok (.iload_n 2, 1) := by decide +kernel
theorem dX7_sharedCells_5 : decode cX7_sharedCells 5 = .ok (.sipush 400, 3) := by decide +kernel
theorem dX7_sharedCells_8 : decode cX7_sharedCells 8 = .ok (.if_icmp .ge 25, 3) := by decide +kernel
theorem dX7_sharedCells_11 : decode cX7_sharedCells 11 = .ok (.aload_n 0, 1) := by decide +kernel
theorem dX7_sharedCells_12 : decode cX7_sharedCells 12 = .ok (.getfield 24, 3) := by decide +kernel
theorem dX7_sharedCells_15 : decode cX7_sharedCells 15 = .ok (.iload_n 2, 1) := by decide +kernel
theorem dX7_sharedCells_16 : decode cX7_sharedCells 16 = .ok (.iaload, 1) := by decide +kernel
theorem dX7_sharedCells_17 : decode cX7_sharedCells 17 = .ok (.invokestatic 41, 3) := by decide +kernel
theorem dX7_sharedCells_20 : decode cX7_sharedCells 20 = .ok (.iconst 1, 1) := by decide +kernel
theorem dX7_sharedCells_21 : decode cX7_sharedCells 21 = .ok (.if_icmp .le 6, 3) := by decide +kernel
theorem dX7_sharedCells_24 : decode cX7_sharedCells 24 = .ok (.iinc 1 1, 3) := by decide +kernel
theorem dX7_sharedCells_27 : decode cX7_sharedCells 27 = .ok (.iinc 2 1, 3) := by decide +kernel
theorem dX7_sharedCells_30 : decode cX7_sharedCells 30 = .ok (.goto (-26), 3) := by decide +kernel
theorem dX7_sharedCells_33 : decode cX7_sharedCells 33 = .ok (.iload_n 1, 1) := by decide +kernel
theorem dX7_sharedCells_34 : decode cX7_sharedCells 34 = .ok (.ireturn, 1) := by decide +kernel
theorem dX8_init_0 : decode cX8_init 0 = .ok (.aload_n 0, 1) := by decide +kernel
theorem dX8_init_1 : decode cX8_init 1 = .ok (.invokespecial 3, 3) := by decide +kernel
theorem dX8_init_4 : decode cX8_init 4 = .ok (.aload_n 0, 1) := by decide +kernel
theorem dX8_init_5 : decode cX8_init 5 = .ok (.sipush 200, 3) := by decide +kernel
theorem dX8_init_8 : decode cX8_init 8 = .ok (.newarray .char, 2) := by decide +kernel
theorem dX8_init_10 : decode cX8_init 10 = .ok (.putfield 9, 3) := by decide +kernel
theorem dX8_init_13 : decode cX8_init 13 = .ok (.aload_n 0, 1) := by decide +kernel
theorem dX8_init_14 : decode cX8_init 14 = .ok (.iconst 4, 1) := by decide +kernel
theorem dX8_init_15 : decode cX8_init 15 = .ok (.newarray .int, 2) := by decide +kernel
theorem dX8_init_17 : decode cX8_init 17 = .ok (.putfield 15, 3) := by decide +kernel
theorem dX8_init_20 : decode cX8_init 20 = .ok (.return_, 1) := by decide +kernel
theorem dX8_append_0 : decode cX8_append 0 = .ok (.aload_n 0, 1) := by decide +kernel
theorem dX8_append_1 : decode cX8_append 1 = .ok (.getfield 19, 3) := by decide +kernel
theorem dX8_append_4 : decode cX8_append 4 = .ok (.sipush 200, 3) := by decide +kernel
theorem dX8_append_7 : decode cX8_append 7 = .ok (.if_icmp .ge 23, 3) := by decide +kernel
theorem dX8_append_10 : decode cX8_append 10 = .ok (.aload_n 0, 1) := by decide +kernel
theorem dX8_append_11 : decode cX8_append 11 = .ok (.getfield 9, 3) := by decide +kernel
theorem dX8_append_14 : decode cX8_append 14 = .ok (.aload_n 0, 1) := by decide +kernel
theorem dX8_append_15 : decode cX8_append 15 = .ok (.getfield 19, 3) := by decide +kernel
theorem dX8_append_18 : decode cX8_append 18 = .ok (.iload_n 1, 1) := by decide +kernel
theorem dX8_append_19 : decode cX8_append 19 = .ok (.castore, 1) := by decide +kernel
theorem dX8_append_20 : decode cX8_append 20 = .ok (.aload_n 0, 1) := by decide +kernel
theorem dX8_append_21 : decode cX8_append 21 = .ok (.dup, 1) := by decide +kernel
theorem dX8_append_22 : decode cX8_append 22 = .ok (.getfield 19, 3) := by decide +kernel
theorem dX8_append_25 : decode cX8_append 25 = .ok (.iconst 1, 1) := by decide +kernel
theorem dX8_append_26 : decode cX8_append 26 = .ok (.iadd, 1) := by decide +kernel
theorem dX8_append_27 : decode cX8_append 27 = .ok (.putfield 19, 3) := by decide +kernel
theorem dX8_append_30 : decode cX8_append 30 = .ok (.return_, 1) := by decide +kernel
theorem dX8_firstFault_0 : decode cX8_firstFault 0 = .ok (.aload_n 1, 1) := by decide +kernel
theorem dX8_firstFault_1 : decode cX8_firstFault 1 = .ok (.invokevirtual 23, 3) := by decide +kernel
theorem dX8_firstFault_4 : decode cX8_firstFault 4 = .ok (.aload_n 0, 1) := by decide +kernel
theorem dX8_firstFault_5 : decode cX8_firstFault 5 = .ok (.iconst 0, 1) := by decide +kernel
theorem dX8_firstFault_6 : decode cX8_firstFault 6 = .ok (.putfield 28, 3) := by decide +kernel
theorem dX8_firstFault_9 : decode cX8_firstFault 9 = .ok (.iconst 0, 1) := by decide +kernel
theorem dX8_firstFault_10 : decode cX8_firstFault 10 = .ok (.istore_n 2, 1) := by decide +kernel
theorem dX8_firstFault_11 : decode cX8_firstFault 11 = .ok (.iload_n 2, 1) := by decide +kernel
theorem dX8_firstFault_12 : decode cX8_firstFault 12 = .ok (.sipush 200, 3) := by decide +kernel
theorem dX8_firstFault_15 : decode cX8_firstFault 15 = .ok (.if_icmp .ge 35, 3) := by decide +kernel
theorem dX8_firstFault_18 : decode cX8_firstFault 18 = .ok (.aload_n 0, 1) := by decide +kernel
theorem dX8_firstFault_19 : decode cX8_firstFault 19 = .ok (.getfield 28, 3) := by decide +kernel
theorem dX8_firstFault_22 : decode cX8_firstFault 22 = .ok (.aload_n 0, 1) := by decide +kernel
theorem dX8_firstFault_23 : decode cX8_firstFault 23 = .ok (.getfield 19, 3) := by decide +kernel
theorem dX8_firstFault_26 : decode cX8_firstFault 26 = .ok (.if_icmp .ge 24, 3) := by decide +kernel
theorem dX8_firstFault_29 : decode cX8_firstFault 29 = .ok (.aload_n 0, 1) := by decide +kernel
theorem dX8_firstFault_30 : decode cX8_firstFault 30 = .ok (.getfield 28, 3) := by decide +kernel
theorem dX8_firstFault_33 : decode cX8_firstFault 33 = .ok (.istore_n 3, 1) := by decide +kernel
theorem dX8_firstFault_34 : decode cX8_firstFault 34 = .ok (.aload_n 0, 1) := by decide +kernel
theorem dX8_firstFault_35 : decode cX8_firstFault 35 = .ok (.aload_n 1, 1) := by decide +kernel
theorem dX8_firstFault_36 : decode cX8_firstFault 36 = .ok (.invokevirtual 31, 3) := by decide +kernel
theorem dX8_firstFault_39 : decode cX8_firstFault 39 = .ok (.ifCond .ne 5, 3) := by decide +kernel
theorem dX8_firstFault_42 : decode cX8_firstFault 42 = .ok (.iload_n 3, 1) := by decide +kernel
theorem dX8_firstFault_43 : decode cX8_firstFault 43 = .ok (.ireturn, 1) := by decide +kernel
theorem dX8_firstFault_44 : decode cX8_firstFault 44 = .ok (.iinc 2 1, 3) := by decide +kernel
theorem dX8_firstFault_47 : decode cX8_firstFault 47 = .ok (.goto (-36), 3) := by decide +kernel
theorem dX8_firstFault_50 : decode cX8_firstFault 50 = .ok (.bipush (-4), 2) := by decide +kernel
theorem dX8_firstFault_52 : decode cX8_firstFault 52 = .ok (.ireturn, 1) := by decide +kernel
theorem dX8_readItem_0 : decode cX8_readItem 0 = .ok (.iconst 0, 1) := by decide +kernel
theorem dX8_readItem_1 : decode cX8_readItem 1 = .ok (.istore_n 2, 1) := by decide +kernel
theorem dX8_readItem_2 : decode cX8_readItem 2 = .ok (.aload_n 0, 1) := by decide +kernel
theorem dX8_readItem_3 : decode cX8_readItem 3 = .ok (.bipush 122, 2) := by decide +kernel
theorem dX8_readItem_5 : decode cX8_readItem 5 = .ok (.invokevirtual 35, 3) := by decide +kernel
theorem dX8_readItem_8 : decode cX8_readItem 8 = .ok (.ifCond .eq 12, 3) := by decide +kernel
theorem dX8_readItem_11 : decode cX8_readItem 11 = .ok (.aload_n 0, 1) := by decide +kernel
theorem dX8_readItem_12 : decode cX8_readItem 12 = .ok (.aload_n 1, 1) := by decide +kernel
theorem dX8_readItem_13 : decode cX8_readItem 13 = .ok (.invokevirtual 39, 3) := by decide +kernel
theorem dX8_readItem_16 : decode cX8_readItem 16 = .ok (.istore_n 2, 1) := by decide +kernel
theorem dX8_readItem_17 : decode cX8_readItem 17 = .ok (.goto 54, 3) := by decide +kernel
theorem dX8_readItem_20 : decode cX8_readItem 20 = .ok (.aload_n 0, 1) := by decide +kernel
theorem dX8_readItem_21 : decode cX8_readItem 21 = .ok (.bipush 106, 2) := by decide +kernel
theorem dX8_readItem_23 : decode cX8_readItem 23 = .ok (.invokevirtual 35, 3) := by decide +kernel
theorem dX8_readItem_26 : decode cX8_readItem 26 = .ok (.ifCond .eq 12, 3) := by decide +kernel
theorem dX8_readItem_29 : decode cX8_readItem 29 = .ok (.aload_n 0, 1) := by decide +kernel
theorem dX8_readItem_30 : decode cX8_readItem 30 = .ok (.aload_n 1, 1) := by decide +kernel
theorem dX8_readItem_31 : decode cX8_readItem 31 = .ok (.invokevirtual 42, 3) := by decide +kernel
theorem dX8_readItem_34 : decode cX8_readItem 34 = .ok (.istore_n 2, 1) := by decide +kernel
theorem dX8_readItem_35 : decode cX8_readItem 35 = .ok (.goto 36, 3) := by decide +kernel
theorem dX8_readItem_38 : decode cX8_readItem 38 = .ok (.aload_n 0, 1) := by decide +kernel
theorem dX8_readItem_39 : decode cX8_readItem 39 = .ok (.bipush 98, 2) := by decide +kernel
theorem dX8_readItem_41 : decode cX8_readItem 41 = .ok (.invokevirtual 35, 3) := by decide +kernel
theorem dX8_readItem_44 : decode cX8_readItem 44 = .ok (.ifCond .eq 12, 3) := by decide +kernel
theorem dX8_readItem_47 : decode cX8_readItem 47 = .ok (.aload_n 0, 1) := by decide +kernel
theorem dX8_readItem_48 : decode cX8_readItem 48 = .ok (.aload_n 1, 1) := by decide +kernel
theorem dX8_readItem_49 : decode cX8_readItem 49 = .ok (.invokevirtual 45, 3) := by decide +kernel
theorem dX8_readItem_52 : decode cX8_readItem 52 = .ok (.istore_n 2, 1) := by decide +kernel
theorem dX8_readItem_53 : decode cX8_readItem 53 = .ok (.goto 18, 3) := by decide +kernel
theorem dX8_readItem_56 : decode cX8_readItem 56 = .ok (.aload_n 0, 1) := by decide +kernel
theorem dX8_readItem_57 : decode cX8_readItem 57 = .ok (.bipush 108, 2) := by decide +kernel
theorem dX8_readItem_59 : decode cX8_readItem 59 = .ok (.invokevirtual 35, 3) := by decide +kernel
theorem dX8_readItem_62 : decode cX8_readItem 62 = .ok (.ifCond .eq 9, 3) := by decide +kernel
theorem dX8_readItem_65 : decode cX8_readItem 65 = .ok (.aload_n 0, 1) := by decide +kernel
theorem dX8_readItem_66 : decode cX8_readItem 66 = .ok (.aload_n 1, 1) := by decide +kernel
theorem dX8_readItem_67 : decode cX8_readItem 67 = .ok (.invokevirtual 48, 3) := by decide +kernel
theorem dX8_readItem_70 : decode cX8_readItem 70 = .ok (.istore_n 2, 1) := by decide +kernel
theorem dX8_readItem_71 : decode cX8_readItem 71 = .ok (.iload_n 2, 1) := by decide +kernel
theorem dX8_readItem_72 : decode cX8_readItem 72 = .ok (.ifCond .eq 16, 3) := by decide +kernel
theorem dX8_readItem_75 : decode cX8_readItem 75 = .ok (.aload_n 0, 1) := by decide +kernel
theorem dX8_readItem_76 : decode cX8_readItem 76 = .ok (.bipush 59, 2) := by decide +kernel
theorem dX8_readItem_78 : decode cX8_readItem 78 = .ok (.invokevirtual 35, 3) := by decide +kernel
theorem dX8_readItem_81 : decode cX8_readItem 81 = .ok (.ifCond .eq 7, 3) := by decide +kernel
theorem dX8_readItem_84 : decode cX8_readItem 84 = .ok (.iconst 1, 1) := by decide +kernel
theorem dX8_readItem_85 : decode cX8_readItem 85 = .ok (.goto 4, 3) := by decide +kernel
theorem dX8_readItem_88 : decode cX8_readItem 88 = .ok (.iconst 0, 1) := by decide +kernel
theorem dX8_readItem_89 : decode cX8_readItem 89 = .ok (.ireturn, 1) := by decide +kernel
theorem dX8_readSizes_0 : decode cX8_readSizes 0 = .ok (.aload_n 0, 1) := by decide +kernel
theorem dX8_readSizes_1 : decode cX8_readSizes 1 = .ok (.iconst 3, 1) := by decide +kernel
theorem dX8_readSizes_2 : decode cX8_readSizes 2 = .ok (.iconst 1, 1) := by decide +kernel
theorem dX8_readSizes_3 : decode cX8_readSizes 3 = .ok (.bipush 9, 2) := by decide +kernel
theorem dX8_readSizes_5 : decode cX8_readSizes 5 = .ok (.invokevirtual 51, 3) := by decide +kernel
theorem dX8_readSizes_8 : decode cX8_readSizes 8 = .ok (.ifCond .ne 5, 3) := by decide +kernel
theorem dX8_readSizes_11 : decode cX8_readSizes 11 = .ok (.iconst 0, 1) := by decide +kernel
theorem dX8_readSizes_12 : decode cX8_readSizes 12 = .ok (.ireturn, 1) := by decide +kernel
theorem dX8_readSizes_13 : decode cX8_readSizes 13 = .ok (.aload_n 0, 1) := by decide +kernel
theorem dX8_readSizes_14 : decode cX8_readSizes 14 = .ok (.getfield 15, 3) := by decide +kernel
theorem dX8_readSizes_17 : decode cX8_readSizes 17 = .ok (.iconst 0, 1) := by decide +kernel
theorem dX8_readSizes_18 : decode cX8_readSizes 18 = .ok (.iaload, 1) := by decide +kernel
theorem dX8_readSizes_19 : decode cX8_readSizes 19 = .ok (.aload_n 0, 1) := by decide +kernel
theorem dX8_readSizes_20 : decode cX8_readSizes 20 = .ok (.getfield 15, 3) := by decide +kernel
theorem dX8_readSizes_23 : decode cX8_readSizes 23 = .ok (.iconst 1, 1) := by decide +kernel
theorem dX8_readSizes_24 : decode cX8_readSizes 24 = .ok (.iaload, 1) := by decide +kernel
theorem dX8_readSizes_25 : decode cX8_readSizes 25 = .ok (.if_icmp .ge 18, 3) := by decide +kernel
theorem dX8_readSizes_28 : decode cX8_readSizes 28 = .ok (.aload_n 0, 1) := by decide +kernel
theorem dX8_readSizes_29 : decode cX8_readSizes 29 = .ok (.getfield 15, 3) := by decide +kernel
theorem dX8_readSizes_32 : decode cX8_readSizes 32 = .ok (.iconst 1, 1) := by decide +kernel
theorem dX8_readSizes_33 : decode cX8_readSizes 33 = .ok (.iaload, 1) := by decide +kernel
theorem dX8_readSizes_34 : decode cX8_readSizes 34 = .ok (.aload_n 0, 1) := by decide +kernel
theorem dX8_readSizes_35 : decode cX8_readSizes 35 = .ok (.getfield 15, 3) := by decide +kernel
theorem dX8_readSizes_38 : decode cX8_readSizes 38 = .ok (.iconst 2, 1) := by decide +kernel
theorem dX8_readSizes_39 : decode cX8_readSizes 39 = .ok (.iaload, 1) := by decide +kernel
theorem dX8_readSizes_40 : decode cX8_readSizes 40 = .ok (.if_icmp .lt 5, 3) := by decide +kernel
theorem dX8_readSizes_43 : decode cX8_readSizes 43 = .ok (.iconst 0, 1) := by decide +kernel
theorem dX8_readSizes_44 : decode cX8_readSizes 44 = .ok (.ireturn, 1) := by decide +kernel
theorem dX8_readSizes_45 : decode cX8_readSizes 45 = .ok (.aload_n 0, 1) := by decide +kernel
theorem dX8_readSizes_46 : decode cX8_readSizes 46 = .ok (.getfield 15, 3) := by decide +kernel
theorem dX8_readSizes_49 : decode cX8_readSizes 49 = .ok (.iconst 0, 1) := by decide +kernel
theorem dX8_readSizes_50 : decode cX8_readSizes 50 = .ok (.aload_n 1, 1) := by decide +kernel
theorem dX8_readSizes_51 : decode cX8_readSizes 51 = .ok (.getfield 55, 3) := by decide +kernel
theorem dX8_readSizes_54 : decode cX8_readSizes 54 = .ok (.iconst 0, 1) := by decide +kernel
theorem dX8_readSizes_55 : decode cX8_readSizes 55 = .ok (.iconst 3, 1) := by decide +kernel
theorem dX8_readSizes_56 : decode cX8_readSizes 56 = .ok (.invokestatic 58, 3) := by decide +kernel
theorem dX8_readSizes_59 : decode cX8_readSizes 59 = .ok (.iconst 1, 1) := by decide +kernel
theorem dX8_readSizes_60 : decode cX8_readSizes 60 = .ok (.ireturn, 1) := by decide +kernel
theorem dX8_readJoint_0 : decode cX8_readJoint 0 = .ok (.aload_n 0, 1) := by decide +kernel
theorem dX8_readJoint_1 : decode cX8_readJoint 1 = .ok (.iconst 1, 1) := by decide +kernel
theorem dX8_readJoint_2 : decode cX8_readJoint 2 = .ok (.iconst 0, 1) := by decide +kernel
theorem dX8_readJoint_3 : decode cX8_readJoint 3 = .ok (.iconst 2, 1) := by decide +kernel
theorem dX8_readJoint_4 : decode cX8_readJoint 4 = .ok (.invokevirtual 51, 3) := by decide +kernel
theorem dX8_readJoint_7 : decode cX8_readJoint 7 = .ok (.ifCond .ne 5, 3) := by decide +kernel
theorem dX8_readJoint_10 : decode cX8_readJoint 10 = .ok (.iconst 0, 1) := by decide +kernel
theorem dX8_readJoint_11 : decode cX8_readJoint 11 = .ok (.ireturn, 1) := by decide +kernel
theorem dX8_readJoint_12 : decode cX8_readJoint 12 = .ok (.aload_n 1, 1) := by decide +kernel
theorem dX8_readJoint_13 : decode cX8_readJoint 13 = .ok (.aload_n 0, 1) := by decide +kernel
theorem dX8_readJoint_14 : decode cX8_readJoint 14 = .ok (.getfield 15, 3) := by decide +kernel
theorem dX8_readJoint_17 : decode cX8_readJoint 17 = .ok (.iconst 0, 1) := by decide +kernel
theorem dX8_readJoint_18 : decode cX8_readJoint 18 = .ok (.iaload, 1) := by decide +kernel
theorem dX8_readJoint_19 : decode cX8_readJoint 19 = .ok (.putfield 64, 3) := by decide +kernel
theorem dX8_readJoint_22 : decode cX8_readJoint 22 = .ok (.iconst 1, 1) := by decide +kernel
theorem dX8_readJoint_23 : decode cX8_readJoint 23 = .ok (.ireturn, 1) := by decide +kernel
theorem dX8_readBag_0 : decode cX8_readBag 0 = .ok (.aload_n 0, 1) := by decide +kernel
theorem dX8_readBag_1 : decode cX8_readBag 1 = .ok (.iconst 4, 1) := by decide +kernel
theorem dX8_readBag_2 : decode cX8_readBag 2 = .ok (.iconst 0, 1) := by decide +kernel
theorem dX8_readBag_3 : decode cX8_readBag 3 = .ok (.bipush 6, 2) := by decide +kernel
theorem dX8_readBag_5 : decode cX8_readBag 5 = .ok (.invokevirtual 51, 3) := by decide +kernel
theorem dX8_readBag_8 : decode cX8_readBag 8 = .ok (.ifCond .eq 15, 3) := by decide +kernel
theorem dX8_readBag_11 : decode cX8_readBag 11 = .ok (.aload_n 0, 1) := by decide +kernel
theorem dX8_readBag_12 : decode cX8_readBag 12 = .ok (.getfield 15, 3) := by decide +kernel
theorem dX8_readBag_15 : decode cX8_readBag 15 = .ok (.iconst 0, 1) := by decide +kernel
theorem dX8_readBag_16 : decode cX8_readBag 16 = .ok (.iaload, 1) := by decide +kernel
theorem dX8_readBag_17 : decode cX8_readBag 17 = .ok (.invokestatic 67, 3) := by decide +kernel
theorem dX8_readBag_20 : decode cX8_readBag 20 = .ok (.ifCond .ne 5, 3) := by decide +kernel
theorem dX8_readBag_23 : decode cX8_readBag 23 = .ok (.iconst 0, 1) := by decide +kernel
theorem dX8_readBag_24 : decode cX8_readBag 24 = .ok (.ireturn, 1) := by decide +kernel
theorem dX8_readBag_25 : decode cX8_readBag 25 = .ok (.aload_n 0, 1) := by decide +kernel
theorem dX8_readBag_26 : decode cX8_readBag 26 = .ok (.getfield 15, 3) := by decide +kernel
theorem dX8_readBag_29 : decode cX8_readBag 29 = .ok (.iconst 1, 1) := by decide +kernel
theorem dX8_readBag_30 : decode cX8_readBag 30 = .ok (.aload_n 1, 1) := by decide +kernel
theorem dX8_readBag_31 : decode cX8_readBag 31 = .ok (.getfield 71, 3) := by decide +kernel
theorem dX8_readBag_34 : decode cX8_readBag 34 = .ok (.aload_n 0, 1) := by decide +kernel
theorem dX8_readBag_35 : decode cX8_readBag 35 = .ok (.getfield 15, 3) := by decide +kernel
theorem dX8_readBag_38 : decode cX8_readBag 38 = .ok (.iconst 0, 1) := by decide +kernel
theorem dX8_readBag_39 : decode cX8_readBag 39 = .ok (.iaload, 1) := by decide +kernel
theorem dX8_readBag_40 : decode cX8_readBag 40 = .ok (.iconst 3, 1) := by decide +kernel
theorem dX8_readBag_41 : decode cX8_readBag 41 = .ok (.imul, 1) := by decide +kernel
theorem dX8_readBag_42 : decode cX8_readBag 42 = .ok (.iconst 3, 1) := by decide +kernel
theorem dX8_readBag_43 : decode cX8_readBag 43 = .ok (.invokestatic 58, 3) := by decide +kernel
theorem dX8_readBag_46 : decode cX8_readBag 46 = .ok (.iconst 1, 1) := by decide +kernel
theorem dX8_readBag_47 : decode cX8_readBag 47 = .ok (.ireturn, 1) := by decide +kernel
theorem dX8_readLine_0 : decode cX8_readLine 0 = .ok (.aload_n 1, 1) := by decide +kernel
theorem dX8_readLine_1 : decode cX8_readLine 1 = .ok (.getfield 74, 3) := by decide +kernel
theorem dX8_readLine_4 : decode cX8_readLine 4 = .ok (.iconst 3, 1) := by decide +kernel
theorem dX8_readLine_5 : decode cX8_readLine 5 = .ok (.if_icmp .ge 23, 3) := by decide +kernel
