theorem dX0_init_0 : decode cX0_init 0 = .ok (.aload_n 0, 1) := by decide +kernel
theorem dX0_init_1 : decode cX0_init 1 = .ok (.invokespecial 3, 3) := by decide +kernel
theorem dX0_init_4 : decode cX0_init 4 = .ok (.aload_n 0, 1) := by decide +kernel
theorem dX0_init_5 : decode cX0_init 5 = .ok (.sipush 300, 3) := by decide +kernel
theorem dX0_init_8 : decode cX0_init 8 = .ok (.newarray .long, 2) := by decide +kernel
theorem dX0_init_10 : decode cX0_init 10 = .ok (.putfield 9, 3) := by decide +kernel
theorem dX0_init_13 : decode cX0_init 13 = .ok (.aload_n 0, 1) := by decide +kernel
theorem dX0_init_14 : decode cX0_init 14 = .ok (.sipush 300, 3) := by decide +kernel
theorem dX0_init_17 : decode cX0_init 17 = .ok (.newarray .int, 2) := by decide +kernel
theorem dX0_init_19 : decode cX0_init 19 = .ok (.putfield 15, 3) := by decide +kernel
theorem dX0_init_22 : decode cX0_init 22 = .ok (.aload_n 0, 1) := by decide +kernel
theorem dX0_init_23 : decode cX0_init 23 = .ok (.sipush 300, 3) := by decide +kernel
theorem dX0_init_26 : decode cX0_init 26 = .ok (.newarray .int, 2) := by decide +kernel
theorem dX0_init_28 : decode cX0_init 28 = .ok (.putfield 19, 3) := by decide +kernel
theorem dX0_init_31 : decode cX0_init 31 = .ok (.aload_n 0, 1) := by decide +kernel
theorem dX0_init_32 : decode cX0_init 32 = .ok (.aload_n 1, 1) := by decide +kernel
theorem dX0_init_33 : decode cX0_init 33 = .ok (.putfield 22, 3) := by decide +kernel
theorem dX0_init_36 : decode cX0_init 36 = .ok (.return_, 1) := by decide +kernel
theorem dX0_add_0 : decode cX0_add 0 = .ok (.aload_n 0, 1) := by decide +kernel
theorem dX0_add_1 : decode cX0_add 1 = .ok (.getfield 26, 3) := by decide +kernel
theorem dX0_add_4 : decode cX0_add 4 = .ok (.aload_n 0, 1) := by decide +kernel
theorem dX0_add_5 : decode cX0_add 5 = .ok (.getfield 30, 3) := by decide +kernel
theorem dX0_add_8 : decode cX0_add 8 = .ok (.iadd, 1) := by decide +kernel
theorem dX0_add_9 : decode cX0_add 9 = .ok (.sipush 300, 3) := by decide +kernel
theorem dX0_add_12 : decode cX0_add 12 = .ok (.irem, 1) := by decide +kernel
theorem dX0_add_13 : decode cX0_add 13 = .ok (.istore_n 3, 1) := by decide +kernel
theorem dX0_add_14 : decode cX0_add 14 = .ok (.aload_n 0, 1) := by decide +kernel
theorem dX0_add_15 : decode cX0_add 15 = .ok (.getfield 9, 3) := by decide +kernel
theorem dX0_add_18 : decode cX0_add 18 = .ok (.iload_n 3, 1) := by decide +kernel
theorem dX0_add_19 : decode cX0_add 19 = .ok (.aload_n 0, 1) := by decide +kernel
theorem dX0_add_20 : decode cX0_add 20 = .ok (.getfield 22, 3) := by decide +kernel
theorem dX0_add_23 : decode cX0_add 23 = .ok (.getfield 33, 3) := by decide +kernel
theorem dX0_add_26 : decode cX0_add 26 = .ok (.lastore, 1) := by decide +kernel
theorem dX0_add_27 : decode cX0_add 27 = .ok (.aload_n 0, 1) := by decide +kernel
theorem dX0_add_28 : decode cX0_add 28 = .ok (.getfield 15, 3) := by decide +kernel
theorem dX0_add_31 : decode cX0_add 31 = .ok (.iload_n 3, 1) := by decide +kernel
theorem dX0_add_32 : decode cX0_add 32 = .ok (.iload_n 1, 1) := by decide +kernel
theorem dX0_add_33 : decode cX0_add 33 = .ok (.iastore, 1) := by decide +kernel
theorem dX0_add_34 : decode cX0_add 34 = .ok (.aload_n 0, 1) := by decide +kernel
theorem dX0_add_35 : decode cX0_add 35 = .ok (.getfield 19, 3) := by decide +kernel
theorem dX0_add_38 : decode cX0_add 38 = .ok (.iload_n 3, 1) := by decide +kernel
theorem dX0_add_39 : decode cX0_add 39 = .ok (.iload_n 2, 1) := by decide +kernel
theorem dX0_add_40 : decode cX0_add 40 = .ok (.iastore, 1) := by decide +kernel
theorem dX0_add_41 : decode cX0_add 41 = .ok (.aload_n 0, 1) := by decide +kernel
theorem dX0_add_42 : decode cX0_add 42 = .ok (.getfield 30, 3) := by decide +kernel
theorem dX0_add_45 : decode cX0_add 45 = .ok (.sipush 300, 3) := by decide +kernel
theorem dX0_add_48 : decode cX0_add 48 = .ok (.if_icmp .ge 16, 3) := by decide +kernel
theorem dX0_add_51 : decode cX0_add 51 = .ok (.aload_n 0, 1) := by decide +kernel
theorem dX0_add_52 : decode cX0_add 52 = .ok (.dup, 1) := by decide +kernel
theorem dX0_add_53 : decode cX0_add 53 = .ok (.getfield 30, 3) := by decide +kernel
theorem dX0_add_56 : decode cX0_add 56 = .ok (.iconst 1, 1) := by decide +kernel
theorem dX0_add_57 : decode cX0_add 57 = .ok (.iadd, 1) := by decide +kernel
theorem dX0_add_58 : decode cX0_add 58 = .ok (.putfield 30, 3) := by decide +kernel
theorem dX0_add_61 : decode cX0_add 61 = .ok (.goto 17, 3) := by decide +kernel
theorem dX0_add_64 : decode cX0_add 64 = .ok (.aload_n 0, 1) := by decide +kernel
theorem dX0_add_65 : decode cX0_add 65 = .ok (.aload_n 0, 1) := by decide +kernel
theorem dX0_add_66 : decode cX0_add 66 = .ok (.getfield 26, 3) := by decide +kernel
theorem dX0_add_69 : decode cX0_add 69 = .ok (.iconst 1, 1) := by decide +kernel
theorem dX0_add_70 : decode cX0_add 70 = .ok (.iadd, 1) := by decide +kernel
theorem dX0_add_71 : decode cX0_add 71 = .ok (.sipush 300, 3) := by decide +kernel
theorem dX0_add_74 : decode cX0_add 74 = .ok (.irem, 1) := by decide +kernel
theorem dX0_add_75 : decode cX0_add 75 = .ok (.putfield 26, 3) := by decide +kernel
theorem dX0_add_78 : decode cX0_add 78 = .ok (.return_, 1) := by decide +kernel
theorem dX0_look_0 : decode cX0_look 0 = .ok (.aload_n 0, 1) := by decide +kernel
theorem dX0_look_1 : decode cX0_look 1 = .ok (.getfield 26, 3) := by decide +kernel
theorem dX0_look_4 : decode cX0_look 4 = .ok (.iload_n 1, 1) := by decide +kernel
theorem dX0_look_5 : decode cX0_look 5 = .ok (.iadd, 1) := by decide +kernel
theorem dX0_look_6 : decode cX0_look 6 = .ok (.sipush 300, 3) := by decide +kernel
theorem dX0_look_9 : decode cX0_look 9 = .ok (.irem, 1) := by decide +kernel
theorem dX0_look_10 : decode cX0_look 10 = .ok (.istore_n 3, 1) := by decide +kernel
theorem dX0_look_11 : decode cX0_look 11 = .ok (.iload_n 2, 1) := by decide +kernel
theorem dX0_look_12 : decode cX0_look 12 = .ok (.ifCond .ne 10, 3) := by decide +kernel
theorem dX0_look_15 : decode cX0_look 15 = .ok (.aload_n 0, 1) := by decide +kernel
theorem dX0_look_16 : decode cX0_look 16 = .ok (.getfield 9, 3) := by decide +kernel
theorem dX0_look_19 : decode cX0_look 19 = .ok (.iload_n 3, 1) := by decide +kernel
theorem dX0_look_20 : decode cX0_look 20 = .ok (.laload, 1) := by decide +kernel
theorem dX0_look_21 : decode cX0_look 21 = .ok (.lreturn, 1) := by decide +kernel
theorem dX0_look_22 : decode cX0_look 22 = .ok (.iload_n 2, 1) := by decide +kernel
theorem dX0_look_23 : decode cX0_look 23 = .ok (.iconst 1, 1) := by decide +kernel
theorem dX0_look_24 : decode cX0_look 24 = .ok (.if_icmp .ne 13, 3) := by decide +kernel
theorem dX0_look_27 : decode cX0_look 27 = .ok (.aload_n 0, 1) := by decide +kernel
theorem dX0_look_28 : decode cX0_look 28 = .ok (.getfield 15, 3) := by decide +kernel
theorem dX0_look_31 : decode cX0_look 31 = .ok (.iload_n 3, 1) := by decide +kernel
theorem dX0_look_32 : decode cX0_look 32 = .ok (.iaload, 1) := by decide +kernel
theorem dX0_look_33 : decode cX0_look 33 = .ok (.i2l, 1) := by decide +kernel
theorem dX0_look_34 : decode cX0_look 34 = .ok (.goto 10, 3) := by decide +kernel
theorem dX0_look_37 : decode cX0_look 37 = .ok (.aload_n 0, 1) := by decide +kernel
theorem dX0_look_38 : decode cX0_look 38 = .ok (.getfield 19, 3) := by decide +kernel
theorem dX0_look_41 : decode cX0_look 41 = .ok (.iload_n 3, 1) := by decide +kernel
theorem dX0_look_42 : decode cX0_look 42 = .ok (.iaload, 1) := by decide +kernel
theorem dX0_look_43 : decode cX0_look 43 = .ok (.i2l, 1) := by decide +kernel
theorem dX0_look_44 : decode cX0_look 44 = .ok (.lreturn, 1) := by decide +kernel
theorem dX1_init_0 : decode cX1_init 0 = .ok (.aload_n 0, 1) := by decide +kernel
theorem dX1_init_1 : decode cX1_init 1 = .ok (.invokespecial 3, 3) := by decide +kernel
theorem dX1_init_4 : decode cX1_init 4 = .ok (.aload_n 0, 1) := by decide +kernel
theorem dX1_init_5 : decode cX1_init 5 = .ok (.new 9, 3) := by decide +kernel
theorem dX1_init_8 : decode cX1_init 8 = .ok (.dup, 1) := by decide +kernel
theorem dX1_init_9 : decode cX1_init 9 = .ok (.invokespecial 11, 3) := by decide +kernel
theorem dX1_init_12 : decode cX1_init 12 = .ok (.putfield 12, 3) := by decide +kernel
theorem dX1_init_15 : decode cX1_init 15 = .ok (.aload_n 0, 1) := by decide +kernel
theorem dX1_init_16 : decode cX1_init 16 = .ok (.iconst (-1), 1) := by decide +kernel
theorem dX1_init_17 : decode cX1_init 17 = .ok (.putfield 18, 3) := by decide +kernel
theorem dX1_init_20 : decode cX1_init 20 = .ok (.aload_n 0, 1) := by decide +kernel
theorem dX1_init_21 : decode cX1_init 21 = .ok (.bipush 20, 2) := by decide +kernel
theorem dX1_init_23 : decode cX1_init 23 = .ok (.newarray .int, 2) := by decide +kernel
theorem dX1_init_25 : decode cX1_init 25 = .ok (.putfield 22, 3) := by decide +kernel
theorem dX1_init_28 : decode cX1_init 28 = .ok (.aload_n 0, 1) := by decide +kernel
theorem dX1_init_29 : decode cX1_init 29 = .ok (.aload_n 1, 1) := by decide +kernel
theorem dX1_init_30 : decode cX1_init 30 = .ok (.putfield 26, 3) := by decide +kernel
theorem dX1_init_33 : decode cX1_init 33 = .ok (.aload_n 0, 1) := by decide +kernel
theorem dX1_init_34 : decode cX1_init 34 = .ok (.aload_n 2, 1) := by decide +kernel
theorem dX1_init_35 : decode cX1_init 35 = .ok (.putfield 30, 3) := by decide +kernel
theorem dX1_init_38 : decode cX1_init 38 = .ok (.return_, 1) := by decide +kernel
theorem dX1_left_0 : decode cX1_left 0 = .ok (.aload_n 0, 1) := by decide +kernel
theorem dX1_left_1 : decode cX1_left 1 = .ok (.getfield 34, 3) := by decide +kernel
theorem dX1_left_4 : decode cX1_left 4 = .ok (.aload_n 0, 1) := by decide +kernel
theorem dX1_left_5 : decode cX1_left 5 = .ok (.getfield 37, 3) := by decide +kernel
theorem dX1_left_8 : decode cX1_left 8 = .ok (.isub, 1) := by decide +kernel
theorem dX1_left_9 : decode cX1_left 9 = .ok (.ireturn, 1) := by decide +kernel
theorem dX1_stepAt_0 : decode cX1_stepAt 0 = .ok (.aload_n 0, 1) := by decide +kernel
theorem dX1_stepAt_1 : decode cX1_stepAt 1 = .ok (.getfield 37, 3) := by decide +kernel
theorem dX1_stepAt_4 : decode cX1_stepAt 4 = .ok (.iload_n 1, 1) := by decide +kernel
theorem dX1_stepAt_5 : decode cX1_stepAt 5 = .ok (.iadd, 1) := by decide +kernel
theorem dX1_stepAt_6 : decode cX1_stepAt 6 = .ok (.istore_n 2, 1) := by decide +kernel
theorem dX1_stepAt_7 : decode cX1_stepAt 7 = .ok (.iload_n 2, 1) := by decide +kernel
theorem dX1_stepAt_8 : decode cX1_stepAt 8 = .ok (.ifCond .lt 20, 3) := by decide +kernel
theorem dX1_stepAt_11 : decode cX1_stepAt 11 = .ok (.iload_n 2, 1) := by decide +kernel
theorem dX1_stepAt_12 : decode cX1_stepAt 12 = .ok (.aload_n 0, 1) := by decide +kernel
theorem dX1_stepAt_13 : decode cX1_stepAt 13 = .ok (.getfield 34, 3) := by decide +kernel
theorem dX1_stepAt_16 : decode cX1_stepAt 16 = .ok (.if_icmp .ge 12, 3) := by decide +kernel
theorem dX1_stepAt_19 : decode cX1_stepAt 19 = .ok (.aload_n 0, 1) := by decide +kernel
theorem dX1_stepAt_20 : decode cX1_stepAt 20 = .ok (.getfield 22, 3) := by decide +kernel
theorem dX1_stepAt_23 : decode cX1_stepAt 23 = .ok (.iload_n 2, 1) := by decide +kernel
theorem dX1_stepAt_24 : decode cX1_stepAt 24 = .ok (.iaload, 1) := by decide +kernel
theorem dX1_stepAt_25 : decode cX1_stepAt 25 = .ok (.goto 4, 3) := by decide +kernel
theorem dX1_stepAt_28 : decode cX1_stepAt 28 = .ok (.iconst (-1), 1) := by decide +kernel
theorem dX1_stepAt_29 : decode cX1_stepAt 29 = .ok (.ireturn, 1) := by decide +kernel
theorem dX1_stepTaken_0 : decode cX1_stepTaken 0 = .ok (.aload_n 0, 1) := by decide +kernel
theorem dX1_stepTaken_1 : decode cX1_stepTaken 1 = .ok (.dup, 1) := by decide +kernel
theorem dX1_stepTaken_2 : decode cX1_stepTaken 2 = .ok (.getfield 37, 3) := by decide +kernel
theorem dX1_stepTaken_5 : decode cX1_stepTaken 5 = .ok (.iconst 1, 1) := by decide +kernel
theorem dX1_stepTaken_6 : decode cX1_stepTaken 6 = .ok (.iadd, 1) := by decide +kernel
theorem dX1_stepTaken_7 : decode cX1_stepTaken 7 = .ok (.putfield 37, 3) := by decide +kernel
theorem dX1_stepTaken_10 : decode cX1_stepTaken 10 = .ok (.return_, 1) := by decide +kernel
theorem dX1_forget_0 : decode cX1_forget 0 = .ok (.aload_n 0, 1) := by decide +kernel
theorem dX1_forget_1 : decode cX1_forget 1 = .ok (.iconst 0, 1) := by decide +kernel
theorem dX1_forget_2 : decode cX1_forget 2 = .ok (.putfield 34, 3) := by decide +kernel
theorem dX1_forget_5 : decode cX1_forget 5 = .ok (.aload_n 0, 1) := by decide +kernel
theorem dX1_forget_6 : decode cX1_forget 6 = .ok (.iconst 0, 1) := by decide +kernel
theorem dX1_forget_7 : decode cX1_forget 7 = .ok (.putfield 37, 3) := by decide +kernel
theorem dX1_forget_10 : decode cX1_forget 10 = .ok (.return_, 1) := by decide +kernel
theorem dX1_scoreChanged_0 : decode cX1_scoreChanged 0 = .ok (.aload_n 0, 1) := by decide +kernel
theorem dX1_scoreChanged_1 : decode cX1_scoreChanged 1 = .ok (.iconst (-1), 1) := by decide +kernel
theorem dX1_scoreChanged_2 : decode cX1_scoreChanged 2 = .ok (.putfield 18, 3) := by decide +kernel
theorem dX1_scoreChanged_5 : decode cX1_scoreChanged 5 = .ok (.aload_n 0, 1) := by decide +kernel
theorem dX1_scoreChanged_6 : decode cX1_scoreChanged 6 = .ok (.invokevirtual 40, 3) := by decide +kernel
theorem dX1_scoreChanged_9 : decode cX1_scoreChanged 9 = .ok (.return_, 1) := by decide +kernel
theorem dX1_costLeft_0 : decode cX1_costLeft 0 = .ok (.aload_n 0, 1) := by decide +kernel
theorem dX1_costLeft_1 : decode cX1_costLeft 1 = .ok (.iconst 0, 1) := by decide +kernel
theorem dX1_costLeft_2 : decode cX1_costLeft 2 = .ok (.invokevirtual 43, 3) := by decide +kernel
theorem dX1_costLeft_5 : decode cX1_costLeft 5 = .ok (.istore_n 1, 1) := by decide +kernel
theorem dX1_costLeft_6 : decode cX1_costLeft 6 = .ok (.iload_n 1, 1) := by decide +kernel
theorem dX1_costLeft_7 : decode cX1_costLeft 7 = .ok (.iconst (-1), 1) := by decide +kernel
theorem dX1_costLeft_8 : decode cX1_costLeft 8 = .ok (.if_icmp .ne 9, 3) := by decide +kernel
theorem dX1_costLeft_11 : decode cX1_costLeft 11 = .ok (.ldc2_w 47, 3) := by decide +kernel
theorem dX1_costLeft_14 : decode cX1_costLeft 14 = .ok (.goto 8, 3) := by decide +kernel
theorem dX1_costLeft_17 : decode cX1_costLeft 17 = .ok (.aload_n 0, 1) := by decide +kernel
theorem dX1_costLeft_18 : decode cX1_costLeft 18 = .ok (.iload_n 1, 1) := by decide +kernel
theorem dX1_costLeft_19 : decode cX1_costLeft 19 = .ok (.invokevirtual 49, 3) := by decide +kernel
theorem dX1_costLeft_22 : decode cX1_costLeft 22 = .ok (.lreturn, 1) := by decide +kernel
theorem dX1_findWay_0 : decode cX1_findWay 0 = .ok (.aload_n 0, 1) := by decide +kernel
theorem dX1_findWay_1 : decode cX1_findWay 1 = .ok (.invokevirtual 53, 3) := by decide +kernel
theorem dX1_findWay_4 : decode cX1_findWay 4 = .ok (.aload_n 0, 1) := by decide +kernel
theorem dX1_findWay_5 : decode cX1_findWay 5 = .ok (.getfield 30, 3) := by decide +kernel
theorem dX1_findWay_8 : decode cX1_findWay 8 = .ok (.getfield 56, 3) := by decide +kernel
theorem dX1_findWay_11 : decode cX1_findWay 11 = .ok (.iconst (-1), 1) := by decide +kernel
theorem dX1_findWay_12 : decode cX1_findWay 12 = .ok (.if_icmp .eq 14, 3) := by decide +kernel
theorem dX1_findWay_15 : decode cX1_findWay 15 = .ok (.aload_n 0, 1) := by decide +kernel
theorem dX1_findWay_16 : decode cX1_findWay 16 = .ok (.getfield 30, 3) := by decide +kernel
theorem dX1_findWay_19 : decode cX1_findWay 19 = .ok (.getfield 61, 3) := by decide +kernel
theorem dX1_findWay_22 : decode cX1_findWay 22 = .ok (.iconst (-1), 1) := by decide +kernel
theorem dX1_findWay_23 : decode cX1_findWay 23 = .ok (.if_icmp .ne 4, 3) := by decide +kernel
theorem dX1_findWay_26 : decode cX1_findWay 26 = .ok (.return_, 1) := by decide +kernel
theorem dX1_findWay_27 : decode cX1_findWay 27 = .ok (.aload_n 0, 1) := by decide +kernel
theorem dX1_findWay_28 : decode cX1_findWay 28 = .ok (.getfield 18, 3) := by decide +kernel
theorem dX1_findWay_31 : decode cX1_findWay 31 = .ok (.aload_n 0, 1) := by decide +kernel
theorem dX1_findWay_32 : decode cX1_findWay 32 = .ok (.getfield 30, 3) := by decide +kernel
theorem dX1_findWay_35 : decode cX1_findWay 35 = .ok (.getfield 61, 3) := by decide +kernel
theorem dX1_findWay_38 : decode cX1_findWay 38 = .ok (.if_icmp .eq 43, 3) := by decide +kernel
theorem dX1_findWay_41 : decode cX1_findWay 41 = .ok (.aload_n 0, 1) := by decide +kernel
theorem dX1_findWay_42 : decode cX1_findWay 42 = .ok (.getfield 12, 3) := by decide +kernel
theorem dX1_findWay_45 : decode cX1_findWay 45 = .ok (.aload_n 0, 1) := by decide +kernel
theorem dX1_findWay_46 : decode cX1_findWay 46 = .ok (.getfield 26, 3) := by decide +kernel
theorem dX1_findWay_49 : decode cX1_findWay 49 = .ok (.aload_n 0, 1) := by decide +kernel
theorem dX1_findWay_50 : decode cX1_findWay 50 = .ok (.getfield 30, 3) := by decide +kernel
theorem dX1_findWay_53 : decode cX1_findWay 53 = .ok (.getfield 61, 3) := by decide +kernel
theorem dX1_findWay_56 : decode cX1_findWay 56 = .ok (.bipush 24, 2) := by decide +kernel
theorem dX1_findWay_58 : decode cX1_findWay 58 = .ok (.aload_n 0, 1) := by decide +kernel
theorem dX1_findWay_59 : decode cX1_findWay 59 = .ok (.getfield 26, 3) := by decide +kernel
theorem dX1_findWay_62 : decode cX1_findWay 62 = .ok (.getfield 64, 3) := by decide +kernel
theorem dX1_findWay_65 : decode cX1_findWay 65 = .ok (.iconst 1, 1) := by decide +kernel
theorem dX1_findWay_66 : decode cX1_findWay 66 = .ok (.iaload, 1) := by decide +kernel
theorem dX1_findWay_67 : decode cX1_findWay 67 = .ok (.invokevirtual 69, 3) := by decide +kernel
theorem dX1_findWay_70 : decode cX1_findWay 70 = .ok (.aload_n 0, 1) := by decide +kernel
theorem dX1_findWay_71 : decode cX1_findWay 71 = .ok (.aload_n 0, 1) := by decide +kernel
theorem dX1_findWay_72 : decode cX1_findWay 72 = .ok (.getfield 30, 3) := by decide +kernel
theorem dX1_findWay_75 : decode cX1_findWay 75 = .ok (.getfield 61, 3) := by decide +kernel
theorem dX1_findWay_78 : decode cX1_findWay 78 = .ok (.putfield 18, 3) := by decide +kernel
theorem dX1_findWay_81 : decode cX1_findWay 81 = .ok (.aload_n 0, 1) := by decide +kernel
theorem dX1_findWay_82 : decode cX1_findWay 82 = .ok (.invokevirtual 73, 3) := by decide +kernel
theorem dX1_findWay_85 : decode cX1_findWay 85 = .ok (.istore_n 1, 1) := by decide +kernel
theorem dX1_findWay_86 : decode cX1_findWay 86 = .ok (.iload_n 1, 1) := by decide +kernel
theorem dX1_findWay_87 : decode cX1_findWay 87 = .ok (.iconst (-1), 1) := by decide +kernel
theorem dX1_findWay_88 : decode cX1_findWay 88 = .ok (.if_icmp .eq 17, 3) := by decide +kernel
theorem dX1_findWay_91 : decode cX1_findWay 91 = .ok (.aload_n 0, 1) := by decide +kernel
theorem dX1_findWay_92 : decode cX1_findWay 92 = .ok (.iload_n 1, 1) := by decide +kernel
theorem dX1_findWay_93 : decode cX1_findWay 93 = .ok (.invokevirtual 77, 3) := by decide +kernel
theorem dX1_findWay_96 : decode cX1_findWay 96 = .ok (.aload_n 0, 1) := by decide +kernel
theorem dX1_findWay_97 : decode cX1_findWay 97 = .ok (.aload_n 0, 1) := by decide +kernel
theorem dX1_findWay_98 : decode cX1_findWay 98 = .ok (.iload_n 1, 1) := by decide +kernel
theorem dX1_findWay_99 : decode cX1_findWay 99 = .ok (.invokevirtual 81, 3) := by decide +kernel
theorem dX1_findWay_102 : decode cX1_findWay 102 = .ok (.invokevirtual 84, 3) := by decide +kernel
theorem dX1_findWay_105 : decode cX1_findWay 105 = .ok (.return_, 1) := by decide +kernel
theorem dX1_addStep_0 : decode cX1_addStep 0 = .ok (.aload_n 0, 1) := by decide +kernel
theorem dX1_addStep_1 : decode cX1_addStep 1 = .ok (.getfield 34, 3) := by decide +kernel
theorem dX1_addStep_4 : decode cX1_addStep 4 = .ok (.bipush 20, 2) := by decide +kernel
theorem dX1_addStep_6 : decode cX1_addStep 6 = .ok (.if_icmp .ge 23, 3) := by decide +kernel
theorem dX1_addStep_9 : decode cX1_addStep 9 = .ok (.aload_n 0, 1) := by decide +kernel
theorem dX1_addStep_10 : decode cX1_addStep 10 = .ok (.getfield 22, 3) := by decide +kernel
theorem dX1_addStep_13 : decode cX1_addStep 13 = .ok (.aload_n 0, 1) := by decide +kernel
theorem dX1_addStep_14 : decode cX1_addStep 14 = .ok (.getfield 34, 3) := by decide +kernel
theorem dX1_addStep_17 : decode cX1_addStep 17 = .ok (.iload_n 1, 1) := by decide +kernel
theorem dX1_addStep_18 : decode cX1_addStep 18 = .ok (.iastore, 1) := by decide +kernel
theorem dX1_addStep_19 : decode cX1_addStep 19 = .ok (.aload_n 0, 1) := by decide +kernel
theorem dX1_addStep_20 : decode cX1_addStep 20 = .ok (.dup, 1) := by decide +kernel
theorem dX1_addStep_21 : decode cX1_addStep 21 = .ok (.getfield 34, 3) := by decide +kernel
theorem dX1_addStep_24 : decode cX1_addStep 24 = .ok (.iconst 1, 1) := by decide +kernel
theorem dX1_addStep_25 : decode cX1_addStep 25 = .ok (.iadd, 1) := by decide +kernel
theorem dX1_addStep_26 : decode cX1_addStep 26 = .ok (.putfield 34, 3) := by decide +kernel
theorem dX1_addStep_29 : decode cX1_addStep 29 = .ok (.return_, 1) := by decide +kernel
theorem dX1_firstStep_0 : decode cX1_firstStep 0 = .ok (.iconst (-1), 1) := by decide +kernel
theorem dX1_firstStep_1 : decode cX1_firstStep 1 = .ok (.istore_n 1, 1) := by decide +kernel
theorem dX1_firstStep_2 : decode cX1_firstStep 2 = .ok (.ldc2_w 47, 3) := by decide +kernel
theorem dX1_firstStep_5 : decode cX1_firstStep 5 = .ok (.lstore_n 2, 1) := by decide +kernel
theorem dX1_firstStep_6 : decode cX1_firstStep 6 = .ok (.iconst 0, 1) := by decide +kernel
theorem dX1_firstStep_7 : decode cX1_firstStep 7 = .ok (.istore 4, 2) := by decide +kernel
theorem dX1_firstStep_9 : decode cX1_firstStep 9 = .ok (.iconst 0, 1) := by decide +kernel
theorem dX1_firstStep_10 : decode cX1_firstStep 10 = .ok (.istore 5, 2) := by decide +kernel
theorem dX1_firstStep_12 : decode cX1_firstStep 12 = .ok (.iload 5, 2) := by decide +kernel
theorem dX1_firstStep_14 : decode cX1_firstStep 14 = .ok (.aload_n 0, 1) := by decide +kernel
theorem dX1_firstStep_15 : decode cX1_firstStep 15 = .ok (.getfield 26, 3) := by decide +kernel
theorem dX1_firstStep_18 : decode cX1_firstStep 18 = .ok (.getfield 87, 3) := by decide +kernel
theorem dX1_firstStep_21 : decode cX1_firstStep 21 = .ok (.if_icmp .gt 98, 3) := by decide +kernel
theorem dX1_firstStep_24 : decode cX1_firstStep 24 = .ok (.iload 5, 2) := by decide +kernel
theorem dX1_firstStep_26 : decode cX1_firstStep 26 = .ok (.aload_n 0, 1) := by decide +kernel
theorem dX1_firstStep_27 : decode cX1_firstStep 27 = .ok (.getfield 26, 3) := by decide +kernel
theorem dX1_firstStep_30 : decode cX1_firstStep 30 = .ok (.getfield 87, 3) := by decide +kernel
theorem dX1_firstStep_33 : decode cX1_firstStep 33 = .ok (.if_icmp .ge 8, 3) := by decide +kernel
theorem dX1_firstStep_36 : decode cX1_firstStep 36 = .ok (.iload 5, 2) := by decide +kernel
theorem dX1_firstStep_38 : decode cX1_firstStep 38 = .ok (.goto 5, 3) := by decide +kernel
theorem dX1_firstStep_41 : decode cX1_firstStep 41 = .ok (.bipush 100, 2) := by decide +kernel
theorem dX1_firstStep_43 : decode cX1_firstStep 43 = .ok (.istore 6, 2) := by decide +kernel
theorem dX1_firstStep_45 : decode cX1_firstStep 45 = .ok (.aload_n 0, 1) := by decide +kernel
theorem dX1_firstStep_46 : decode cX1_firstStep 46 = .ok (.iload 6, 2) := by decide +kernel
theorem dX1_firstStep_48 : decode cX1_firstStep 48 = .ok (.invokevirtual 90, 3) := by decide +kernel
theorem dX1_firstStep_51 : decode cX1_firstStep 51 = .ok (.ifCond .ne 6, 3) := by decide +kernel
theorem dX1_firstStep_54 : decode cX1_firstStep 54 = .ok (.goto 59, 3) := by decide +kernel
theorem dX1_firstStep_57 : decode cX1_firstStep 57 = .ok (.aload_n 0, 1) := by decide +kernel
theorem dX1_firstStep_58 : decode cX1_firstStep 58 = .ok (.iload 6, 2) := by decide +kernel
theorem dX1_firstStep_60 : decode cX1_firstStep 60 = .ok (.invokevirtual 49, 3) := by decide +kernel
theorem dX1_firstStep_63 : decode cX1_firstStep 63 = .ok (.lstore 7, 2) := by decide +kernel
theorem dX1_firstStep_65 : decode cX1_firstStep 65 = .ok (.aload_n 0, 1) := by decide +kernel
theorem dX1_firstStep_66 : decode cX1_firstStep 66 = .ok (.getfield 12, 3) := by decide +kernel
theorem dX1_firstStep_69 : decode cX1_firstStep 69 = .ok (.getfield 94, 3) := by decide +kernel
theorem dX1_firstStep_72 : decode cX1_firstStep 72 = .ok (.aload_n 0, 1) := by decide +kernel
theorem dX1_firstStep_73 : decode cX1_firstStep 73 = .ok (.iload 6, 2) := by decide +kernel
theorem dX1_firstStep_75 : decode cX1_firstStep 75 = .ok (.invokevirtual 81, 3) := by decide +kernel
theorem dX1_firstStep_78 : decode cX1_firstStep 78 = .ok (.iaload, 1) := by decide +kernel
theorem dX1_firstStep_79 : decode cX1_firstStep 79 = .ok (.istore 9, 2) := by decide +kernel
theorem dX1_firstStep_81 : decode cX1_firstStep 81 = .ok (.lload 7, 2) := by decide +kernel
theorem dX1_firstStep_83 : decode cX1_firstStep 83 = .ok (.ldc2_w 47, 3) := by decide +kernel
theorem dX1_firstStep_86 : decode cX1_firstStep 86 = .ok (.lcmp, 1) := by decide +kernel
theorem dX1_firstStep_87 : decode cX1_firstStep 87 = .ok (.ifCond .eq 26, 3) := by decide +kernel
theorem dX1_firstStep_90 : decode cX1_firstStep 90 = .ok (.lload 7, 2) := by decide +kernel
theorem dX1_firstStep_92 : decode cX1_firstStep 92 = .ok (.iload 9, 2) := by decide +kernel
theorem dX1_firstStep_94 : decode cX1_firstStep 94 = .ok (.lload_n 2, 1) := by decide +kernel
theorem dX1_firstStep_95 : decode cX1_firstStep 95 = .ok (.iload 4, 2) := by decide +kernel
theorem dX1_firstStep_97 : decode cX1_firstStep 97 = .ok (.invokestatic 95, 3) := by decide +kernel
theorem dX1_firstStep_100 : decode cX1_firstStep 100 = .ok (.ifCond .eq 13, 3) := by decide +kernel
theorem dX1_firstStep_103 : decode cX1_firstStep 103 = .ok (.iload 6, 2) := by decide +kernel
theorem dX1_firstStep_105 : decode cX1_firstStep 105 = .ok (.istore_n 1, 1) := by decide +kernel
theorem dX1_firstStep_106 : decode cX1_firstStep 106 = .ok (.lload 7, 2) := by decide +kernel
theorem dX1_firstStep_108 : decode cX1_firstStep 108 = .ok (.lstore_n 2, 1) := by decide +kernel
theorem dX1_firstStep_109 : decode cX1_firstStep 109 = .ok (.iload 9, 2) := by decide +kernel
theorem dX1_firstStep_111 : decode cX1_firstStep 111 = .ok (.istore 4, 2) := by decide +kernel
theorem dX1_firstStep_113 : decode cX1_firstStep 113 = .ok (.iinc 5 1, 3) := by decide +kernel
theorem dX1_firstStep_116 : decode cX1_firstStep 116 = .ok (.goto (-104), 3) := by decide +kernel
theorem dX1_firstStep_119 : decode cX1_firstStep 119 = .ok (.iload_n 1, 1) := by decide +kernel
theorem dX1_firstStep_120 : decode cX1_firstStep 120 = .ok (.ireturn, 1) := by decide +kernel
theorem dX1_isOpen_0 : decode cX1_isOpen 0 = .ok (.iload_n 1, 1) := by decide +kernel
theorem dX1_isOpen_1 : decode cX1_isOpen 1 = .ok (.bipush 100, 2) := by decide +kernel
theorem dX1_isOpen_3 : decode cX1_isOpen 3 = .ok (.if_icmp .ne 27, 3) := by decide +kernel
theorem dX1_isOpen_6 : decode cX1_isOpen 6 = .ok (.aload_n 0, 1) := by decide +kernel
theorem dX1_isOpen_7 : decode cX1_isOpen 7 = .ok (.getfield 26, 3) := by decide +kernel
theorem dX1_isOpen_10 : decode cX1_isOpen 10 = .ok (.getfield 99, 3) := by decide +kernel
theorem dX1_isOpen_13 : decode cX1_isOpen 13 = .ok (.aload_n 0, 1) := by decide +kernel
theorem dX1_isOpen_14 : decode cX1_isOpen 14 = .ok (.getfield 30, 3) := by decide +kernel
theorem dX1_isOpen_17 : decode cX1_isOpen 17 = .ok (.getfield 56, 3) := by decide +kernel
theorem dX1_isOpen_20 : decode cX1_isOpen 20 = .ok (.iaload, 1) := by decide +kernel
theorem dX1_isOpen_21 : decode cX1_isOpen 21 = .ok (.ifCond .ne 7, 3) := by decide +kernel
theorem dX1_isOpen_24 : decode cX1_isOpen 24 = .ok (.iconst 1, 1) := by decide +kernel
theorem dX1_isOpen_25 : decode cX1_isOpen 25 = .ok (.goto 4, 3) := by decide +kernel
theorem dX1_isOpen_28 : decode cX1_isOpen 28 = .ok (.iconst 0, 1) := by decide +kernel
theorem dX1_isOpen_29 : decode cX1_isOpen 29 = .ok (.ireturn, 1) := by decide +kernel
theorem dX1_isOpen_30 : decode cX1_isOpen 30 = .ok (.aload_n 0, 1) := by decide +kernel
theorem dX1_isOpen_31 : decode cX1_isOpen 31 = .ok (.getfield 26, 3) := by decide +kernel
theorem dX1_isOpen_34 : decode cX1_isOpen 34 = .ok (.getfield 102, 3) := by decide +kernel
theorem dX1_isOpen_37 : decode cX1_isOpen 37 = .ok (.iload_n 1, 1) := by decide +kernel
theorem dX1_isOpen_38 : decode cX1_isOpen 38 = .ok (.iaload, 1) := by decide +kernel
theorem dX1_isOpen_39 : decode cX1_isOpen 39 = .ok (.aload_n 0, 1) := by decide +kernel
theorem dX1_isOpen_40 : decode cX1_isOpen 40 = .ok (.getfield 30, 3) := by decide +kernel
theorem dX1_isOpen_43 : decode cX1_isOpen 43 = .ok (.getfield 56, 3) := by decide +kernel
theorem dX1_isOpen_46 : decode cX1_isOpen 46 = .ok (.if_icmp .ne 26, 3) := by decide +kernel
theorem dX1_isOpen_49 : decode cX1_isOpen 49 = .ok (.aload_n 0, 1) := by decide +kernel
theorem dX1_isOpen_50 : decode cX1_isOpen 50 = .ok (.getfield 26, 3) := by decide +kernel
theorem dX1_isOpen_53 : decode cX1_isOpen 53 = .ok (.getfield 105, 3) := by decide +kernel
theorem dX1_isOpen_56 : decode cX1_isOpen 56 = .ok (.iload_n 1, 1) := by decide +kernel
theorem dX1_isOpen_57 : decode cX1_isOpen 57 = .ok (.iaload, 1) := by decide +kernel
theorem dX1_isOpen_58 : decode cX1_isOpen 58 = .ok (.aload_n 0, 1) := by decide +kernel
theorem dX1_isOpen_59 : decode cX1_isOpen 59 = .ok (.getfield 30, 3) := by decide +kernel
theorem dX1_isOpen_62 : decode cX1_isOpen 62 = .ok (.getfield 108, 3) := by decide +kernel
theorem dX1_isOpen_65 : decode cX1_isOpen 65 = .ok (.if_icmp .le 7, 3) := by decide +kernel
theorem dX1_isOpen_68 : decode cX1_isOpen 68 = .ok (.iconst 1, 1) := by decide +kernel
theorem dX1_isOpen_69 : decode cX1_isOpen 69 = .ok (.goto 4, 3) := by decide +kernel
theorem dX1_isOpen_72 : decode cX1_isOpen 72 = .ok (.iconst 0, 1) := by decide +kernel
theorem dX1_isOpen_73 : decode cX1_isOpen 73 = .ok (.ireturn, 1) := by decide +kernel
theorem dX1_pieceBehind_0 : decode cX1_pieceBehind 0 = .ok (.iload_n 1, 1) := by decide +kernel
theorem dX1_pieceBehind_1 : decode cX1_pieceBehind 1 = .ok (.bipush 100, 2) := by decide +kernel
theorem dX1_pieceBehind_3 : decode cX1_pieceBehind 3 = .ok (.if_icmp .ne 13, 3) := by decide +kernel
theorem dX1_pieceBehind_6 : decode cX1_pieceBehind 6 = .ok (.aload_n 0, 1) := by decide +kernel
theorem dX1_pieceBehind_7 : decode cX1_pieceBehind 7 = .ok (.getfield 30, 3) := by decide +kernel
theorem dX1_pieceBehind_10 : decode cX1_pieceBehind 10 = .ok (.getfield 56, 3) := by decide +kernel
theorem dX1_pieceBehind_13 : decode cX1_pieceBehind 13 = .ok (.goto 12, 3) := by decide +kernel
theorem dX1_pieceBehind_16 : decode cX1_pieceBehind 16 = .ok (.aload_n 0, 1) := by decide +kernel
theorem dX1_pieceBehind_17 : decode cX1_pieceBehind 17 = .ok (.getfield 26, 3) := by decide +kernel
theorem dX1_pieceBehind_20 : decode cX1_pieceBehind 20 = .ok (.getfield 111, 3) := by decide +kernel
theorem dX1_pieceBehind_23 : decode cX1_pieceBehind 23 = .ok (.iload_n 1, 1) := by decide +kernel
theorem dX1_pieceBehind_24 : decode cX1_pieceBehind 24 = .ok (.iaload, 1) := by decide +kernel
theorem dX1_pieceBehind_25 : decode cX1_pieceBehind 25 = .ok (.ireturn, 1) := by decide +kernel
theorem dX1_costBy_0 : decode cX1_costBy 0 = .ok (.aload_n 0, 1) := by decide +kernel
theorem dX1_costBy_1 : decode cX1_costBy 1 = .ok (.getfield 12, 3) := by decide +kernel
theorem dX1_costBy_4 : decode cX1_costBy 4 = .ok (.getfield 114, 3) := by decide +kernel
theorem dX1_costBy_7 : decode cX1_costBy 7 = .ok (.aload_n 0, 1) := by decide +kernel
theorem dX1_costBy_8 : decode cX1_costBy 8 = .ok (.iload_n 1, 1) := by decide +kernel
theorem dX1_costBy_9 : decode cX1_costBy 9 = .ok (.invokevirtual 81, 3) := by decide +kernel
theorem dX1_costBy_12 : decode cX1_costBy 12 = .ok (.laload, 1) := by decide +kernel
theorem dX1_costBy_13 : decode cX1_costBy 13 = .ok (.lstore_n 2, 1) := by decide +kernel
theorem dX1_costBy_14 : decode cX1_costBy 14 = .ok (.lload_n 2, 1) := by decide +kernel
theorem dX1_costBy_15 : decode cX1_costBy 15 = .ok (.ldc2_w 47, 3) := by decide +kernel
theorem dX1_costBy_18 : decode cX1_costBy 18 = .ok (.lcmp, 1) := by decide +kernel
theorem dX1_costBy_19 : decode cX1_costBy 19 = .ok (.ifCond .ne 7, 3) := by decide +kernel
theorem dX1_costBy_22 : decode cX1_costBy 22 = .ok (.ldc2_w 47, 3) := by decide +kernel
theorem dX1_costBy_25 : decode cX1_costBy 25 = .ok (.lreturn, 1) := by decide +kernel
theorem dX1_costBy_26 : decode cX1_costBy 26 = .ok (.aload_n 0, 1) := by decide +kernel
theorem dX1_costBy_27 : decode cX1_costBy 27 = .ok (.getfield 30, 3) := by decide +kernel
theorem dX1_costBy_30 : decode cX1_costBy 30 = .ok (.getfield 56, 3) := by decide +kernel
theorem dX1_costBy_33 : decode cX1_costBy 33 = .ok (.istore 4, 2) := by decide +kernel
theorem dX1_costBy_35 : decode cX1_costBy 35 = .ok (.iload_n 1, 1) := by decide +kernel
theorem dX1_costBy_36 : decode cX1_costBy 36 = .ok (.bipush 100, 2) := by decide +kernel
theorem dX1_costBy_38 : decode cX1_costBy 38 = .ok (.if_icmp .ne 7, 3) := by decide +kernel
theorem dX1_costBy_41 : decode cX1_costBy 41 = .ok (.iconst 1, 1) := by decide +kernel
theorem dX1_costBy_42 : decode cX1_costBy 42 = .ok (.goto 4, 3) := by decide +kernel
theorem dX1_costBy_45 : decode cX1_costBy 45 = .ok (.iconst 0, 1) := by decide +kernel
theorem dX1_costBy_46 : decode cX1_costBy 46 = .ok (.istore 5, 2) := by decide +kernel
theorem dX1_costBy_48 : decode cX1_costBy 48 = .ok (.iload 5, 2) := by decide +kernel
theorem dX1_costBy_50 : decode cX1_costBy 50 = .ok (.ifCond .eq 15, 3) := by decide +kernel
theorem dX1_costBy_53 : decode cX1_costBy 53 = .ok (.aload_n 0, 1) := by decide +kernel
theorem dX1_costBy_54 : decode cX1_costBy 54 = .ok (.getfield 26, 3) := by decide +kernel
theorem dX1_costBy_57 : decode cX1_costBy 57 = .ok (.getfield 64, 3) := by decide +kernel
theorem dX1_costBy_60 : decode cX1_costBy 60 = .ok (.iconst 0, 1) := by decide +kernel
theorem dX1_costBy_61 : decode cX1_costBy 61 = .ok (.iaload, 1) := by decide +kernel
theorem dX1_costBy_62 : decode cX1_costBy 62 = .ok (.goto 12, 3) := by decide +kernel
theorem dX1_costBy_65 : decode cX1_costBy 65 = .ok (.aload_n 0, 1) := by decide +kernel
theorem dX1_costBy_66 : decode cX1_costBy 66 = .ok (.getfield 26, 3) := by decide +kernel
theorem dX1_costBy_69 : decode cX1_costBy 69 = .ok (.getfield 118, 3) := by decide +kernel
theorem dX1_costBy_72 : decode cX1_costBy 72 = .ok (.iload_n 1, 1) := by decide +kernel
theorem dX1_costBy_73 : decode cX1_costBy 73 = .ok (.iaload, 1) := by decide +kernel
theorem dX1_costBy_74 : decode cX1_costBy 74 = .ok (.istore 6, 2) := by decide +kernel
theorem dX1_costBy_76 : decode cX1_costBy 76 = .ok (.iload 5, 2) := by decide +kernel
theorem dX1_costBy_78 : decode cX1_costBy 78 = .ok (.ifCond .eq 16, 3) := by decide +kernel
theorem dX1_costBy_81 : decode cX1_costBy 81 = .ok (.aload_n 0, 1) := by decide +kernel
theorem dX1_costBy_82 : decode cX1_costBy 82 = .ok (.getfield 26, 3) := by decide +kernel
theorem dX1_costBy_85 : decode cX1_costBy 85 = .ok (.getfield 121, 3) := by decide +kernel
theorem dX1_costBy_88 : decode cX1_costBy 88 = .ok (.iload 4, 2) := by decide +kernel
theorem dX1_costBy_90 : decode cX1_costBy 90 = .ok (.iaload, 1) := by decide +kernel
theorem dX1_costBy_91 : decode cX1_costBy 91 = .ok (.goto 12, 3) := by decide +kernel
theorem dX1_costBy_94 : decode cX1_costBy 94 = .ok (.aload_n 0, 1) := by decide +kernel
theorem dX1_costBy_95 : decode cX1_costBy 95 = .ok (.getfield 26, 3) := by decide +kernel
theorem dX1_costBy_98 : decode cX1_costBy 98 = .ok (.getfield 105, 3) := by decide +kernel
theorem dX1_costBy_101 : decode cX1_costBy 101 = .ok (.iload_n 1, 1) := by decide +kernel
theorem dX1_costBy_102 : decode cX1_costBy 102 = .ok (.iaload, 1) := by decide +kernel
theorem dX1_costBy_103 : decode cX1_costBy 103 = .ok (.istore 7, 2) := by decide +kernel
theorem dX1_costBy_105 : decode cX1_costBy 105 = .ok (.iload 7, 2) := by decide +kernel
theorem dX1_costBy_107 : decode cX1_costBy 107 = .ok (.aload_n 0, 1) := by decide +kernel
theorem dX1_costBy_108 : decode cX1_costBy 108 = .ok (.getfield 30, 3) := by decide +kernel
theorem dX1_costBy_111 : decode cX1_costBy 111 = .ok (.getfield 108, 3) := by decide +kernel
theorem dX1_costBy_114 : decode cX1_costBy 114 = .ok (.isub, 1) := by decide +kernel
theorem dX1_costBy_115 : decode cX1_costBy 115 = .ok (.i2l, 1) := by decide +kernel
theorem dX1_costBy_116 : decode cX1_costBy 116 = .ok (.aload_n 0, 1) := by decide +kernel
theorem dX1_costBy_117 : decode cX1_costBy 117 = .ok (.getfield 26, 3) := by decide +kernel
theorem dX1_costBy_120 : decode cX1_costBy 120 = .ok (.getfield 124, 3) := by decide +kernel
theorem dX1_costBy_123 : decode cX1_costBy 123 = .ok (.iload 4, 2) := by decide +kernel
theorem dX1_costBy_125 : decode cX1_costBy 125 = .ok (.iaload, 1) := by decide +kernel
theorem dX1_costBy_126 : decode cX1_costBy 126 = .ok (.i2l, 1) := by decide +kernel
theorem dX1_costBy_127 : decode cX1_costBy 127 = .ok (.lmul, 1) := by decide +kernel
theorem dX1_costBy_128 : decode cX1_costBy 128 = .ok (.aload_n 0, 1) := by decide +kernel
theorem dX1_costBy_129 : decode cX1_costBy 129 = .ok (.getfield 30, 3) := by decide +kernel
theorem dX1_costBy_132 : decode cX1_costBy 132 = .ok (.invokevirtual 127, 3) := by decide +kernel
theorem dX1_costBy_135 : decode cX1_costBy 135 = .ok (.lsub, 1) := by decide +kernel
theorem dX1_costBy_136 : decode cX1_costBy 136 = .ok (.lstore 8, 2) := by decide +kernel
theorem dX1_costBy_138 : decode cX1_costBy 138 = .ok (.lload_n 2, 1) := by decide +kernel
theorem dX1_costBy_139 : decode cX1_costBy 139 = .ok (.bipush 24, 2) := by decide +kernel
theorem dX1_costBy_141 : decode cX1_costBy 141 = .ok (.iload 6, 2) := by decide +kernel
theorem dX1_costBy_143 : decode cX1_costBy 143 = .ok (.imul, 1) := by decide +kernel
theorem dX1_costBy_144 : decode cX1_costBy 144 = .ok (.i2l, 1) := by decide +kernel
theorem dX1_costBy_145 : decode cX1_costBy 145 = .ok (.ladd, 1) := by decide +kernel
theorem dX1_costBy_146 : decode cX1_costBy 146 = .ok (.aload_n 0, 1) := by decide +kernel
theorem dX1_costBy_147 : decode cX1_costBy 147 = .ok (.getfield 26, 3) := by decide +kernel
theorem dX1_costBy_150 : decode cX1_costBy 150 = .ok (.getfield 64, 3) := by decide +kernel
theorem dX1_costBy_153 : decode cX1_costBy 153 = .ok (.iconst 1, 1) := by decide +kernel
theorem dX1_costBy_154 : decode cX1_costBy 154 = .ok (.iaload, 1) := by decide +kernel
theorem dX1_costBy_155 : decode cX1_costBy 155 = .ok (.i2l, 1) := by decide +kernel
theorem dX1_costBy_156 : decode cX1_costBy 156 = .ok (.lload 8, 2) := by decide +kernel
theorem dX1_costBy_158 : decode cX1_costBy 158 = .ok (.lmul, 1) := by decide +kernel
theorem dX1_costBy_159 : decode cX1_costBy 159 = .ok (.ladd, 1) := by decide +kernel
theorem dX1_costBy_160 : decode cX1_costBy 160 = .ok (.lreturn, 1) := by decide +kernel
theorem dX1_followTable_0 : decode cX1_followTable 0 = .ok (.iload_n 1, 1) := by decide +kernel
theorem dX1_followTable_1 : decode cX1_followTable 1 = .ok (.istore_n 2, 1) := by decide +kernel
theorem dX1_followTable_2 : decode cX1_followTable 2 = .ok (.iconst 1, 1) := by decide +kernel
theorem dX1_followTable_3 : decode cX1_followTable 3 = .ok (.istore_n 3, 1) := by decide +kernel
theorem dX1_followTable_4 : decode cX1_followTable 4 = .ok (.iload_n 3, 1) := by decide +kernel
theorem dX1_followTable_5 : decode cX1_followTable 5 = .ok (.bipush 20, 2) := by decide +kernel
theorem dX1_followTable_7 : decode cX1_followTable 7 = .ok (.if_icmp .ge 52, 3) := by decide +kernel
theorem dX1_followTable_10 : decode cX1_followTable 10 = .ok (.aload_n 0, 1) := by decide +kernel
theorem dX1_followTable_11 : decode cX1_followTable 11 = .ok (.getfield 12, 3) := by decide +kernel
theorem dX1_followTable_14 : decode cX1_followTable 14 = .ok (.getfield 94, 3) := by decide +kernel
theorem dX1_followTable_17 : decode cX1_followTable 17 = .ok (.iload_n 2, 1) := by decide +kernel
theorem dX1_followTable_18 : decode cX1_followTable 18 = .ok (.iaload, 1) := by decide +kernel
theorem dX1_followTable_19 : decode cX1_followTable 19 = .ok (.ifCond .le 40, 3) := by decide +kernel
theorem dX1_followTable_22 : decode cX1_followTable 22 = .ok (.aload_n 0, 1) := by decide +kernel
theorem dX1_followTable_23 : decode cX1_followTable 23 = .ok (.iload_n 2, 1) := by decide +kernel
theorem dX1_followTable_24 : decode cX1_followTable 24 = .ok (.invokevirtual 131, 3) := by decide +kernel
theorem dX1_followTable_27 : decode cX1_followTable 27 = .ok (.istore 4, 2) := by decide +kernel
theorem dX1_followTable_29 : decode cX1_followTable 29 = .ok (.iload 4, 2) := by decide +kernel
theorem dX1_followTable_31 : decode cX1_followTable 31 = .ok (.iconst (-1), 1) := by decide +kernel
theorem dX1_followTable_32 : decode cX1_followTable 32 = .ok (.if_icmp .ne 4, 3) := by decide +kernel
theorem dX1_followTable_35 : decode cX1_followTable 35 = .ok (.return_, 1) := by decide +kernel
theorem dX1_followTable_36 : decode cX1_followTable 36 = .ok (.aload_n 0, 1) := by decide +kernel
theorem dX1_followTable_37 : decode cX1_followTable 37 = .ok (.iload 4, 2) := by decide +kernel
theorem dX1_followTable_39 : decode cX1_followTable 39 = .ok (.invokevirtual 77, 3) := by decide +kernel
theorem dX1_followTable_42 : decode cX1_followTable 42 = .ok (.aload_n 0, 1) := by decide +kernel
theorem dX1_followTable_43 : decode cX1_followTable 43 = .ok (.getfield 26, 3) := by decide +kernel
theorem dX1_followTable_46 : decode cX1_followTable 46 = .ok (.getfield 111, 3) := by decide +kernel
theorem dX1_followTable_49 : decode cX1_followTable 49 = .ok (.iload 4, 2) := by decide +kernel
theorem dX1_followTable_51 : decode cX1_followTable 51 = .ok (.iaload, 1) := by decide +kernel
theorem dX1_followTable_52 : decode cX1_followTable 52 = .ok (.istore_n 2, 1) := by decide +kernel
theorem dX1_followTable_53 : decode cX1_followTable 53 = .ok (.iinc 3 1, 3) := by decide +kernel
theorem dX1_followTable_56 : decode cX1_followTable 56 = .ok (.goto (-52), 3) := by decide +kernel
theorem dX1_followTable_59 : decode cX1_followTable 59 = .ok (.return_, 1) := by decide +kernel
theorem dX1_firstOnTable_0 : decode cX1_firstOnTable 0 = .ok (.iconst 0, 1) := by decide +kernel
theorem dX1_firstOnTable_1 : decode cX1_firstOnTable 1 = .ok (.istore_n 2, 1) := by decide +kernel
theorem dX1_firstOnTable_2 : decode cX1_firstOnTable 2 = .ok (.iload_n 2, 1) := by decide +kernel
theorem dX1_firstOnTable_3 : decode cX1_firstOnTable 3 = .ok (.aload_n 0, 1) := by decide +kernel
theorem dX1_firstOnTable_4 : decode cX1_firstOnTable 4 = .ok (.getfield 26, 3) := by decide +kernel
theorem dX1_firstOnTable_7 : decode cX1_firstOnTable 7 = .ok (.getfield 87, 3) := by decide +kernel
theorem dX1_firstOnTable_10 : decode cX1_firstOnTable 10 = .ok (.if_icmp .ge 133, 3) := by decide +kernel
theorem dX1_firstOnTable_13 : decode cX1_firstOnTable 13 = .ok (.aload_n 0, 1) := by decide +kernel
theorem dX1_firstOnTable_14 : decode cX1_firstOnTable 14 = .ok (.getfield 26, 3) := by decide +kernel
theorem dX1_firstOnTable_17 : decode cX1_firstOnTable 17 = .ok (.getfield 111, 3) := by decide +kernel
theorem dX1_firstOnTable_20 : decode cX1_firstOnTable 20 = .ok (.iload_n 2, 1) := by decide +kernel
theorem dX1_firstOnTable_21 : decode cX1_firstOnTable 21 = .ok (.iaload, 1) := by decide +kernel
theorem dX1_firstOnTable_22 : decode cX1_firstOnTable 22 = .ok (.istore_n 3, 1) := by decide +kernel
theorem dX1_firstOnTable_23 : decode cX1_firstOnTable 23 = .ok (.bipush 24, 2) := by decide +kernel
theorem dX1_firstOnTable_25 : decode cX1_firstOnTable 25 = .ok (.aload_n 0, 1) := by decide +kernel
theorem dX1_firstOnTable_26 : decode cX1_firstOnTable 26 = .ok (.getfield 26, 3) := by decide +kernel
theorem dX1_firstOnTable_29 : decode cX1_firstOnTable 29 = .ok (.getfield 118, 3) := by decide +kernel
theorem dX1_firstOnTable_32 : decode cX1_firstOnTable 32 = .ok (.iload_n 2, 1) := by decide +kernel
theorem dX1_firstOnTable_33 : decode cX1_firstOnTable 33 = .ok (.iaload, 1) := by decide +kernel
theorem dX1_firstOnTable_34 : decode cX1_firstOnTable 34 = .ok (.imul, 1) := by decide +kernel
theorem dX1_firstOnTable_35 : decode cX1_firstOnTable 35 = .ok (.i2l, 1) := by decide +kernel
theorem dX1_firstOnTable_36 : decode cX1_firstOnTable 36 = .ok (.aload_n 0, 1) := by decide +kernel
theorem dX1_firstOnTable_37 : decode cX1_firstOnTable 37 = .ok (.getfield 26, 3) := by decide +kernel
theorem dX1_firstOnTable_40 : decode cX1_firstOnTable 40 = .ok (.getfield 64, 3) := by decide +kernel
theorem dX1_firstOnTable_43 : decode cX1_firstOnTable 43 = .ok (.iconst 1, 1) := by decide +kernel
theorem dX1_firstOnTable_44 : decode cX1_firstOnTable 44 = .ok (.iaload, 1) := by decide +kernel
theorem dX1_firstOnTable_45 : decode cX1_firstOnTable 45 = .ok (.i2l, 1) := by decide +kernel
theorem dX1_firstOnTable_46 : decode cX1_firstOnTable 46 = .ok (.aload_n 0, 1) := by decide +kernel
theorem dX1_firstOnTable_47 : decode cX1_firstOnTable 47 = .ok (.getfield 26, 3) := by decide +kernel
theorem dX1_firstOnTable_50 : decode cX1_firstOnTable 50 = .ok (.iload_n 2, 1) := by decide +kernel
theorem dX1_firstOnTable_51 : decode cX1_firstOnTable 51 = .ok (.invokevirtual 134, 3) := by decide +kernel
theorem dX1_firstOnTable_54 : decode cX1_firstOnTable 54 = .ok (.lmul, 1) := by decide +kernel
theorem dX1_firstOnTable_55 : decode cX1_firstOnTable 55 = .ok (.ladd, 1) := by decide +kernel
theorem dX1_firstOnTable_56 : decode cX1_firstOnTable 56 = .ok (.lstore 4, 2) := by decide +kernel
theorem dX1_firstOnTable_58 : decode cX1_firstOnTable 58 = .ok (.aload_n 0, 1) := by decide +kernel
theorem dX1_firstOnTable_59 : decode cX1_firstOnTable 59 = .ok (.getfield 26, 3) := by decide +kernel
theorem dX1_firstOnTable_62 : decode cX1_firstOnTable 62 = .ok (.getfield 102, 3) := by decide +kernel
theorem dX1_firstOnTable_65 : decode cX1_firstOnTable 65 = .ok (.iload_n 2, 1) := by decide +kernel
theorem dX1_firstOnTable_66 : decode cX1_firstOnTable 66 = .ok (.iaload, 1) := by decide +kernel
theorem dX1_firstOnTable_67 : decode cX1_firstOnTable 67 = .ok (.iload_n 1, 1) := by decide +kernel
theorem dX1_firstOnTable_68 : decode cX1_firstOnTable 68 = .ok (.if_icmp .ne 69, 3) := by decide +kernel
theorem dX1_firstOnTable_71 : decode cX1_firstOnTable 71 = .ok (.aload_n 0, 1) := by decide +kernel
theorem dX1_firstOnTable_72 : decode cX1_firstOnTable 72 = .ok (.getfield 12, 3) := by decide +kernel
theorem dX1_firstOnTable_75 : decode cX1_firstOnTable 75 = .ok (.getfield 114, 3) := by decide +kernel
theorem dX1_firstOnTable_78 : decode cX1_firstOnTable 78 = .ok (.iload_n 3, 1) := by decide +kernel
theorem dX1_firstOnTable_79 : decode cX1_firstOnTable 79 = .ok (.laload, 1) := by decide +kernel
theorem dX1_firstOnTable_80 : decode cX1_firstOnTable 80 = .ok (.ldc2_w 47, 3) := by decide +kernel
theorem dX1_firstOnTable_83 : decode cX1_firstOnTable 83 = .ok (.lcmp, 1) := by decide +kernel
theorem dX1_firstOnTable_84 : decode cX1_firstOnTable 84 = .ok (.ifCond .eq 53, 3) := by decide +kernel
theorem dX1_firstOnTable_87 : decode cX1_firstOnTable 87 = .ok (.aload_n 0, 1) := by decide +kernel
theorem dX1_firstOnTable_88 : decode cX1_firstOnTable 88 = .ok (.getfield 12, 3) := by decide +kernel
theorem dX1_firstOnTable_91 : decode cX1_firstOnTable 91 = .ok (.getfield 114, 3) := by decide +kernel
theorem dX1_firstOnTable_94 : decode cX1_firstOnTable 94 = .ok (.iload_n 3, 1) := by decide +kernel
theorem dX1_firstOnTable_95 : decode cX1_firstOnTable 95 = .ok (.laload, 1) := by decide +kernel
theorem dX1_firstOnTable_96 : decode cX1_firstOnTable 96 = .ok (.lload 4, 2) := by decide +kernel
theorem dX1_firstOnTable_98 : decode cX1_firstOnTable 98 = .ok (.ladd, 1) := by decide +kernel
theorem dX1_firstOnTable_99 : decode cX1_firstOnTable 99 = .ok (.aload_n 0, 1) := by decide +kernel
theorem dX1_firstOnTable_100 : decode cX1_firstOnTable 100 = .ok (.getfield 12, 3) := by decide +kernel
theorem dX1_firstOnTable_103 : decode cX1_firstOnTable 103 = .ok (.getfield 114, 3) := by decide +kernel
theorem dX1_firstOnTable_106 : decode cX1_firstOnTable 106 = .ok (.iload_n 1, 1) := by decide +kernel
theorem dX1_firstOnTable_107 : decode cX1_firstOnTable 107 = .ok (.laload, 1) := by decide +kernel
theorem dX1_firstOnTable_108 : decode cX1_firstOnTable 108 = .ok (.lcmp, 1) := by decide +kernel
theorem dX1_firstOnTable_109 : decode cX1_firstOnTable 109 = .ok (.ifCond .ne 28, 3) := by decide +kernel
theorem dX1_firstOnTable_112 : decode cX1_firstOnTable 112 = .ok (.aload_n 0, 1) := by decide +kernel
theorem dX1_firstOnTable_113 : decode cX1_firstOnTable 113 = .ok (.getfield 12, 3) := by decide +kernel
theorem dX1_firstOnTable_116 : decode cX1_firstOnTable 116 = .ok (.getfield 94, 3) := by decide +kernel
theorem dX1_firstOnTable_119 : decode cX1_firstOnTable 119 = .ok (.iload_n 3, 1) := by decide +kernel
theorem dX1_firstOnTable_120 : decode cX1_firstOnTable 120 = .ok (.iaload, 1) := by decide +kernel
theorem dX1_firstOnTable_121 : decode cX1_firstOnTable 121 = .ok (.iconst 1, 1) := by decide +kernel
theorem dX1_firstOnTable_122 : decode cX1_firstOnTable 122 = .ok (.iadd, 1) := by decide +kernel
theorem dX1_firstOnTable_123 : decode cX1_firstOnTable 123 = .ok (.aload_n 0, 1) := by decide +kernel
theorem dX1_firstOnTable_124 : decode cX1_firstOnTable 124 = .ok (.getfield 12, 3) := by decide +kernel
theorem dX1_firstOnTable_127 : decode cX1_firstOnTable 127 = .ok (.getfield 94, 3) := by decide +kernel
theorem dX1_firstOnTable_130 : decode cX1_firstOnTable 130 = .ok (.iload_n 1, 1) := by decide +kernel
theorem dX1_firstOnTable_131 : decode cX1_firstOnTable 131 = .ok (.iaload, 1) := by decide +kernel
theorem dX1_firstOnTable_132 : decode cX1_firstOnTable 132 = .ok (.if_icmp .ne 5, 3) := by decide +kernel
theorem dX1_firstOnTable_135 : decode cX1_firstOnTable 135 = .ok (.iload_n 2, 1) := by decide +kernel
theorem dX1_firstOnTable_136 : decode cX1_firstOnTable 136 = .ok (.ireturn, 1) := by decide +kernel
theorem dX1_firstOnTable_137 : decode cX1_firstOnTable 137 = .ok (.iinc 2 1, 3) := by decide +kernel
theorem dX1_firstOnTable_140 : decode cX1_firstOnTable 140 = .ok (.goto (-138), 3) := by decide +kernel
theorem dX1_firstOnTable_143 : decode cX1_firstOnTable 143 = .ok (.iconst (-1), 1) := by decide +kernel
theorem dX1_firstOnTable_144 : decode cX1_firstOnTable 144 = .ok (.ireturn, 1) := by decide +kernel
theorem dX2_init_0 : decode cX2_init 0 = .ok (.aload_n 0, 1) := by decide +kernel
theorem dX2_init_1 : decode cX2_init 1 = .ok (.invokespecial 3, 3) := by decide +kernel
theorem dX2_init_4 : decode cX2_init 4 = .ok (.aload_n 0, 1) := by decide +kernel
theorem dX2_init_5 : decode cX2_init 5 = .ok (.bipush 20, 2) := by decide +kernel
theorem dX2_init_7 : decode cX2_init 7 = .ok (.newarray .int, 2) := by decide +kernel
theorem dX2_init_9 : decode cX2_init 9 = .ok (.putfield 9, 3) := by decide +kernel
theorem dX2_init_12 : decode cX2_init 12 = .ok (.aload_n 0, 1) := by decide +kernel
theorem dX2_init_13 : decode cX2_init 13 = .ok (.bipush 20, 2) := by decide +kernel
theorem dX2_init_15 : decode cX2_init 15 = .ok (.newarray .int, 2) := by decide +kernel
theorem dX2_init_17 : decode cX2_init 17 = .ok (.putfield 15, 3) := by decide +kernel
theorem dX2_init_20 : decode cX2_init 20 = .ok (.aload_n 0, 1) := by decide +kernel
theorem dX2_init_21 : decode cX2_init 21 = .ok (.bipush 20, 2) := by decide +kernel
theorem dX2_init_23 : decode cX2_init 23 = .ok (.newarray .int, 2) := by decide +kernel
theorem dX2_init_25 : decode cX2_init 25 = .ok (.putfield 18, 3) := by decide +kernel
theorem dX2_init_28 : decode cX2_init 28 = .ok (.aload_n 0, 1) := by decide +kernel
theorem dX2_init_29 : decode cX2_init 29 = .ok (.bipush 20, 2) := by decide +kernel
theorem dX2_init_31 : decode cX2_init 31 = .ok (.newarray .int, 2) := by decide +kernel
theorem dX2_init_33 : decode cX2_init 33 = .ok (.putfield 21, 3) := by decide +kernel
theorem dX2_init_36 : decode cX2_init 36 = .ok (.aload_n 0, 1) := by decide +kernel
theorem dX2_init_37 : decode cX2_init 37 = .ok (.bipush 20, 2) := by decide +kernel
theorem dX2_init_39 : decode cX2_init 39 = .ok (.newarray .int, 2) := by decide +kernel
theorem dX2_init_41 : decode cX2_init 41 = .ok (.putfield 24, 3) := by decide +kernel
theorem dX2_init_44 : decode cX2_init 44 = .ok (.aload_n 0, 1) := by decide +kernel
theorem dX2_init_45 : decode cX2_init 45 = .ok (.bipush 100, 2) := by decide +kernel
theorem dX2_init_47 : decode cX2_init 47 = .ok (.newarray .int, 2) := by decide +kernel
theorem dX2_init_49 : decode cX2_init 49 = .ok (.putfield 27, 3) := by decide +kernel
theorem dX2_init_52 : decode cX2_init 52 = .ok (.aload_n 0, 1) := by decide +kernel
theorem dX2_init_53 : decode cX2_init 53 = .ok (.bipush 100, 2) := by decide +kernel
theorem dX2_init_55 : decode cX2_init 55 = .ok (.newarray .int, 2) := by decide +kernel
theorem dX2_init_57 : decode cX2_init 57 = .ok (.putfield 30, 3) := by decide +kernel
theorem dX2_init_60 : decode cX2_init 60 = .ok (.aload_n 0, 1) := by decide +kernel
theorem dX2_init_61 : decode cX2_init 61 = .ok (.bipush 100, 2) := by decide +kernel
theorem dX2_init_63 : decode cX2_init 63 = .ok (.newarray .int, 2) := by decide +kernel
theorem dX2_init_65 : decode cX2_init 65 = .ok (.putfield 33, 3) := by decide +kernel
theorem dX2_init_68 : decode cX2_init 68 = .ok (.aload_n 0, 1) := by decide +kernel
theorem dX2_init_69 : decode cX2_init 69 = .ok (.bipush 100, 2) := by decide +kernel
theorem dX2_init_71 : decode cX2_init 71 = .ok (.newarray .int, 2) := by decide +kernel
theorem dX2_init_73 : decode cX2_init 73 = .ok (.putfield 36, 3) := by decide +kernel
theorem dX2_init_76 : decode cX2_init 76 = .ok (.aload_n 0, 1) := by decide +kernel
theorem dX2_init_77 : decode cX2_init 77 = .ok (.iconst 2, 1) := by decide +kernel
theorem dX2_init_78 : decode cX2_init 78 = .ok (.newarray .int, 2) := by decide +kernel
theorem dX2_init_80 : decode cX2_init 80 = .ok (.putfield 39, 3) := by decide +kernel
theorem dX2_init_83 : decode cX2_init 83 = .ok (.aload_n 0, 1) := by decide +kernel
theorem dX2_init_84 : decode cX2_init 84 = .ok (.getfield 39, 3) := by decide +kernel
theorem dX2_init_87 : decode cX2_init 87 = .ok (.iconst 0, 1) := by decide +kernel
theorem dX2_init_88 : decode cX2_init 88 = .ok (.bipush 10, 2) := by decide +kernel
theorem dX2_init_90 : decode cX2_init 90 = .ok (.iastore, 1) := by decide +kernel
theorem dX2_init_91 : decode cX2_init 91 = .ok (.aload_n 0, 1) := by decide +kernel
theorem dX2_init_92 : decode cX2_init 92 = .ok (.getfield 39, 3) := by decide +kernel
theorem dX2_init_95 : decode cX2_init 95 = .ok (.iconst 1, 1) := by decide +kernel
theorem dX2_init_96 : decode cX2_init 96 = .ok (.iconst 1, 1) := by decide +kernel
theorem dX2_init_97 : decode cX2_init 97 = .ok (.iastore, 1) := by decide +kernel
theorem dX2_init_98 : decode cX2_init 98 = .ok (.return_, 1) := by decide +kernel
theorem dX2_addPiece_0 : decode cX2_addPiece 0 = .ok (.iload_n 1, 1) := by decide +kernel
theorem dX2_addPiece_1 : decode cX2_addPiece 1 = .ok (.ifCond .eq 8, 3) := by decide +kernel
theorem dX2_addPiece_4 : decode cX2_addPiece 4 = .ok (.iload_n 1, 1) := by decide +kernel
theorem dX2_addPiece_5 : decode cX2_addPiece 5 = .ok (.iconst 1, 1) := by decide +kernel
theorem dX2_addPiece_6 : decode cX2_addPiece 6 = .ok (.if_icmp .ne 9, 3) := by decide +kernel
theorem dX2_addPiece_9 : decode cX2_addPiece 9 = .ok (.sipush 255, 3) := by decide +kernel
theorem dX2_addPiece_12 : decode cX2_addPiece 12 = .ok (.goto 4, 3) := by decide +kernel
theorem dX2_addPiece_15 : decode cX2_addPiece 15 = .ok (.iconst 0, 1) := by decide +kernel
theorem dX2_addPiece_16 : decode cX2_addPiece 16 = .ok (.istore 6, 2) := by decide +kernel
theorem dX2_addPiece_18 : decode cX2_addPiece 18 = .ok (.iload_n 1, 1) := by decide +kernel
theorem dX2_addPiece_19 : decode cX2_addPiece 19 = .ok (.ifCond .lt 61, 3) := by decide +kernel
theorem dX2_addPiece_22 : decode cX2_addPiece 22 = .ok (.iload_n 1, 1) := by decide +kernel
theorem dX2_addPiece_23 : decode cX2_addPiece 23 = .ok (.iconst 3, 1) := by decide +kernel
theorem dX2_addPiece_24 : decode cX2_addPiece 24 = .ok (.if_icmp .gt 56, 3) := by decide +kernel
theorem dX2_addPiece_27 : decode cX2_addPiece 27 = .ok (.iload_n 2, 1) := by decide +kernel
theorem dX2_addPiece_28 : decode cX2_addPiece 28 = .ok (.iconst 1, 1) := by decide +kernel
theorem dX2_addPiece_29 : decode cX2_addPiece 29 = .ok (.if_icmp .lt 51, 3) := by decide +kernel
theorem dX2_addPiece_32 : decode cX2_addPiece 32 = .ok (.iload_n 2, 1) := by decide +kernel
theorem dX2_addPiece_33 : decode cX2_addPiece 33 = .ok (.bipush 64, 2) := by decide +kernel
theorem dX2_addPiece_35 : decode cX2_addPiece 35 = .ok (.if_icmp .gt 45, 3) := by decide +kernel
theorem dX2_addPiece_38 : decode cX2_addPiece 38 = .ok (.iload_n 3, 1) := by decide +kernel
theorem dX2_addPiece_39 : decode cX2_addPiece 39 = .ok (.bipush 24, 2) := by decide +kernel
theorem dX2_addPiece_41 : decode cX2_addPiece 41 = .ok (.if_icmp .lt 39, 3) := by decide +kernel
theorem dX2_addPiece_44 : decode cX2_addPiece 44 = .ok (.iload_n 3, 1) := by decide +kernel
theorem dX2_addPiece_45 : decode cX2_addPiece 45 = .ok (.sipush 2400, 3) := by decide +kernel
theorem dX2_addPiece_48 : decode cX2_addPiece 48 = .ok (.if_icmp .gt 32, 3) := by decide +kernel
theorem dX2_addPiece_51 : decode cX2_addPiece 51 = .ok (.iload 4, 2) := by decide +kernel
theorem dX2_addPiece_53 : decode cX2_addPiece 53 = .ok (.ifCond .lt 27, 3) := by decide +kernel
theorem dX2_addPiece_56 : decode cX2_addPiece 56 = .ok (.iload 4, 2) := by decide +kernel
theorem dX2_addPiece_58 : decode cX2_addPiece 58 = .ok (.iload 6, 2) := by decide +kernel
theorem dX2_addPiece_60 : decode cX2_addPiece 60 = .ok (.if_icmp .gt 20, 3) := by decide +kernel
theorem dX2_addPiece_63 : decode cX2_addPiece 63 = .ok (.iload 5, 2) := by decide +kernel
theorem dX2_addPiece_65 : decode cX2_addPiece 65 = .ok (.iconst 1, 1) := by decide +kernel
theorem dX2_addPiece_66 : decode cX2_addPiece 66 = .ok (.if_icmp .lt 14, 3) := by decide +kernel
theorem dX2_addPiece_69 : decode cX2_addPiece 69 = .ok (.iload 5, 2) := by decide +kernel
theorem dX2_addPiece_71 : decode cX2_addPiece 71 = .ok (.bipush 9, 2) := by decide +kernel
theorem dX2_addPiece_73 : decode cX2_addPiece 73 = .ok (.if_icmp .gt 7, 3) := by decide +kernel
theorem dX2_addPiece_76 : decode cX2_addPiece 76 = .ok (.iconst 1, 1) := by decide +kernel
theorem dX2_addPiece_77 : decode cX2_addPiece 77 = .ok (.goto 4, 3) := by decide +kernel
theorem dX2_addPiece_80 : decode cX2_addPiece 80 = .ok (.iconst 0, 1) := by decide +kernel
theorem dX2_addPiece_81 : decode cX2_addPiece 81 = .ok (.istore 7, 2) := by decide +kernel
theorem dX2_addPiece_83 : decode cX2_addPiece 83 = .ok (.iload 7, 2) := by decide +kernel
theorem dX2_addPiece_85 : decode cX2_addPiece 85 = .ok (.ifCond .eq 12, 3) := by decide +kernel
theorem dX2_addPiece_88 : decode cX2_addPiece 88 = .ok (.aload_n 0, 1) := by decide +kernel
theorem dX2_addPiece_89 : decode cX2_addPiece 89 = .ok (.getfield 42, 3) := by decide +kernel
theorem dX2_addPiece_92 : decode cX2_addPiece 92 = .ok (.bipush 20, 2) := by decide +kernel
theorem dX2_addPiece_94 : decode cX2_addPiece 94 = .ok (.if_icmp .lt 5, 3) := by decide +kernel
theorem dX2_addPiece_97 : decode cX2_addPiece 97 = .ok (.iconst (-1), 1) := by decide +kernel
theorem dX2_addPiece_98 : decode cX2_addPiece 98 = .ok (.ireturn, 1) := by decide +kernel
theorem dX2_addPiece_99 : decode cX2_addPiece 99 = .ok (.aload_n 0, 1) := by decide +kernel
theorem dX2_addPiece_100 : decode cX2_addPiece 100 = .ok (.getfield 9, 3) := by decide +kernel
theorem dX2_addPiece_103 : decode cX2_addPiece 103 = .ok (.aload_n 0, 1) := by decide +kernel
theorem dX2_addPiece_104 : decode cX2_addPiece 104 = .ok (.getfield 42, 3) := by decide +kernel
theorem dX2_addPiece_107 : decode cX2_addPiece 107 = .ok (.iload_n 1, 1) := by decide +kernel
theorem dX2_addPiece_108 : decode cX2_addPiece 108 = .ok (.iastore, 1) := by decide +kernel
theorem dX2_addPiece_109 : decode cX2_addPiece 109 = .ok (.aload_n 0, 1) := by decide +kernel
theorem dX2_addPiece_110 : decode cX2_addPiece 110 = .ok (.getfield 15, 3) := by decide +kernel
theorem dX2_addPiece_113 : decode cX2_addPiece 113 = .ok (.aload_n 0, 1) := by decide +kernel
theorem dX2_addPiece_114 : decode cX2_addPiece 114 = .ok (.getfield 42, 3) := by decide +kernel
theorem dX2_addPiece_117 : decode cX2_addPiece 117 = .ok (.iload_n 2, 1) := by decide +kernel
theorem dX2_addPiece_118 : decode cX2_addPiece 118 = .ok (.iastore, 1) := by decide +kernel
theorem dX2_addPiece_119 : decode cX2_addPiece 119 = .ok (.aload_n 0, 1) := by decide +kernel
theorem dX2_addPiece_120 : decode cX2_addPiece 120 = .ok (.getfield 18, 3) := by decide +kernel
theorem dX2_addPiece_123 : decode cX2_addPiece 123 = .ok (.aload_n 0, 1) := by decide +kernel
theorem dX2_addPiece_124 : decode cX2_addPiece 124 = .ok (.getfield 42, 3) := by decide +kernel
theorem dX2_addPiece_127 : decode cX2_addPiece 127 = .ok (.iload_n 3, 1) := by decide +kernel
theorem dX2_addPiece_128 : decode cX2_addPiece 128 = .ok (.iastore, 1) := by decide +kernel
theorem dX2_addPiece_129 : decode cX2_addPiece 129 = .ok (.aload_n 0, 1) := by decide +kernel
theorem dX2_addPiece_130 : decode cX2_addPiece 130 = .ok (.getfield 21, 3) := by decide +kernel
theorem dX2_addPiece_133 : decode cX2_addPiece 133 = .ok (.aload_n 0, 1) := by decide +kernel
theorem dX2_addPiece_134 : decode cX2_addPiece 134 = .ok (.getfield 42, 3) := by decide +kernel
theorem dX2_addPiece_137 : decode cX2_addPiece 137 = .ok (.iload 4, 2) := by decide +kernel
theorem dX2_addPiece_139 : decode cX2_addPiece 139 = .ok (.iastore, 1) := by decide +kernel
theorem dX2_addPiece_140 : decode cX2_addPiece 140 = .ok (.aload_n 0, 1) := by decide +kernel
theorem dX2_addPiece_141 : decode cX2_addPiece 141 = .ok (.getfield 24, 3) := by decide +kernel
theorem dX2_addPiece_144 : decode cX2_addPiece 144 = .ok (.aload_n 0, 1) := by decide +kernel
theorem dX2_addPiece_145 : decode cX2_addPiece 145 = .ok (.getfield 42, 3) := by decide +kernel
theorem dX2_addPiece_148 : decode cX2_addPiece 148 = .ok (.iload 5, 2) := by decide +kernel
theorem dX2_addPiece_150 : decode cX2_addPiece 150 = .ok (.iastore, 1) := by decide +kernel
theorem dX2_addPiece_151 : decode cX2_addPiece 151 = .ok (.aload_n 0, 1) := by decide +kernel
theorem dX2_addPiece_152 : decode cX2_addPiece 152 = .ok (.dup, 1) := by decide +kernel
theorem dX2_addPiece_153 : decode cX2_addPiece 153 = .ok (.getfield 42, 3) := by decide +kernel
theorem dX2_addPiece_156 : decode cX2_addPiece 156 = .ok (.iconst 1, 1) := by decide +kernel
theorem dX2_addPiece_157 : decode cX2_addPiece 157 = .ok (.iadd, 1) := by decide +kernel
theorem dX2_addPiece_158 : decode cX2_addPiece 158 = .ok (.putfield 42, 3) := by decide +kernel
theorem dX2_addPiece_161 : decode cX2_addPiece 161 = .ok (.aload_n 0, 1) := by decide +kernel
theorem dX2_addPiece_162 : decode cX2_addPiece 162 = .ok (.getfield 42, 3) := by decide +kernel
theorem dX2_addPiece_165 : decode cX2_addPiece 165 = .ok (.iconst 1, 1) := by decide +kernel
theorem dX2_addPiece_166 : decode cX2_addPiece 166 = .ok (.isub, 1) := by decide +kernel
theorem dX2_addPiece_167 : decode cX2_addPiece 167 = .ok (.ireturn, 1) := by decide +kernel
theorem dX2_addJoint_0 : decode cX2_addJoint 0 = .ok (.aload_n 0, 1) := by decide +kernel
theorem dX2_addJoint_1 : decode cX2_addJoint 1 = .ok (.iload_n 1, 1) := by decide +kernel
theorem dX2_addJoint_2 : decode cX2_addJoint 2 = .ok (.invokevirtual 46, 3) := by decide +kernel
theorem dX2_addJoint_5 : decode cX2_addJoint 5 = .ok (.ifCond .eq 42, 3) := by decide +kernel
theorem dX2_addJoint_8 : decode cX2_addJoint 8 = .ok (.aload_n 0, 1) := by decide +kernel
theorem dX2_addJoint_9 : decode cX2_addJoint 9 = .ok (.iload_n 3, 1) := by decide +kernel
theorem dX2_addJoint_10 : decode cX2_addJoint 10 = .ok (.invokevirtual 46, 3) := by decide +kernel
theorem dX2_addJoint_13 : decode cX2_addJoint 13 = .ok (.ifCond .eq 34, 3) := by decide +kernel
theorem dX2_addJoint_16 : decode cX2_addJoint 16 = .ok (.iload_n 2, 1) := by decide +kernel
theorem dX2_addJoint_17 : decode cX2_addJoint 17 = .ok (.iconst 1, 1) := by decide +kernel
theorem dX2_addJoint_18 : decode cX2_addJoint 18 = .ok (.if_icmp .lt 29, 3) := by decide +kernel
theorem dX2_addJoint_21 : decode cX2_addJoint 21 = .ok (.iload_n 2, 1) := by decide +kernel
theorem dX2_addJoint_22 : decode cX2_addJoint 22 = .ok (.aload_n 0, 1) := by decide +kernel
theorem dX2_addJoint_23 : decode cX2_addJoint 23 = .ok (.getfield 15, 3) := by decide +kernel
theorem dX2_addJoint_26 : decode cX2_addJoint 26 = .ok (.iload_n 1, 1) := by decide +kernel
theorem dX2_addJoint_27 : decode cX2_addJoint 27 = .ok (.iaload, 1) := by decide +kernel
theorem dX2_addJoint_28 : decode cX2_addJoint 28 = .ok (.if_icmp .gt 19, 3) := by decide +kernel
theorem dX2_addJoint_31 : decode cX2_addJoint 31 = .ok (.iload 4, 2) := by decide +kernel
theorem dX2_addJoint_33 : decode cX2_addJoint 33 = .ok (.ifCond .lt 14, 3) := by decide +kernel
theorem dX2_addJoint_36 : decode cX2_addJoint 36 = .ok (.iload 4, 2) := by decide +kernel
theorem dX2_addJoint_38 : decode cX2_addJoint 38 = .ok (.bipush 99, 2) := by decide +kernel
theorem dX2_addJoint_40 : decode cX2_addJoint 40 = .ok (.if_icmp .gt 7, 3) := by decide +kernel
theorem dX2_addJoint_43 : decode cX2_addJoint 43 = .ok (.iconst 1, 1) := by decide +kernel
theorem dX2_addJoint_44 : decode cX2_addJoint 44 = .ok (.goto 4, 3) := by decide +kernel
theorem dX2_addJoint_47 : decode cX2_addJoint 47 = .ok (.iconst 0, 1) := by decide +kernel
theorem dX2_addJoint_48 : decode cX2_addJoint 48 = .ok (.istore 5, 2) := by decide +kernel
theorem dX2_addJoint_50 : decode cX2_addJoint 50 = .ok (.iload 5, 2) := by decide +kernel
theorem dX2_addJoint_52 : decode cX2_addJoint 52 = .ok (.ifCond .eq 22, 3) := by decide +kernel
theorem dX2_addJoint_55 : decode cX2_addJoint 55 = .ok (.aload_n 0, 1) := by decide +kernel
theorem dX2_addJoint_56 : decode cX2_addJoint 56 = .ok (.getfield 50, 3) := by decide +kernel
theorem dX2_addJoint_59 : decode cX2_addJoint 59 = .ok (.bipush 100, 2) := by decide +kernel
theorem dX2_addJoint_61 : decode cX2_addJoint 61 = .ok (.if_icmp .ge 13, 3) := by decide +kernel
theorem dX2_addJoint_64 : decode cX2_addJoint 64 = .ok (.aload_n 0, 1) := by decide +kernel
theorem dX2_addJoint_65 : decode cX2_addJoint 65 = .ok (.iload_n 1, 1) := by decide +kernel
theorem dX2_addJoint_66 : decode cX2_addJoint 66 = .ok (.iload_n 2, 1) := by decide +kernel
theorem dX2_addJoint_67 : decode cX2_addJoint 67 = .ok (.iload_n 3, 1) := by decide +kernel
theorem dX2_addJoint_68 : decode cX2_addJoint 68 = .ok (.invokevirtual 53, 3) := by decide +kernel
theorem dX2_addJoint_71 : decode cX2_addJoint 71 = .ok (.ifCond .eq 5, 3) := by decide +kernel
theorem dX2_addJoint_74 : decode cX2_addJoint 74 = .ok (.iconst (-1), 1) := by decide +kernel
theorem dX2_addJoint_75 : decode cX2_addJoint 75 = .ok (.ireturn, 1) := by decide +kernel
theorem dX2_addJoint_76 : decode cX2_addJoint 76 = .ok (.aload_n 0, 1) := by decide +kernel
theorem dX2_addJoint_77 : decode cX2_addJoint 77 = .ok (.getfield 27, 3) := by decide +kernel
theorem dX2_addJoint_80 : decode cX2_addJoint 80 = .ok (.aload_n 0, 1) := by decide +kernel
theorem dX2_addJoint_81 : decode cX2_addJoint 81 = .ok (.getfield 50, 3) := by decide +kernel
theorem dX2_addJoint_84 : decode cX2_addJoint 84 = .ok (.iload_n 1, 1) := by decide +kernel
theorem dX2_addJoint_85 : decode cX2_addJoint 85 = .ok (.iastore, 1) := by decide +kernel
theorem dX2_addJoint_86 : decode cX2_addJoint 86 = .ok (.aload_n 0, 1) := by decide +kernel
theorem dX2_addJoint_87 : decode cX2_addJoint 87 = .ok (.getfield 30, 3) := by decide +kernel
theorem dX2_addJoint_90 : decode cX2_addJoint 90 = .ok (.aload_n 0, 1) := by decide +kernel
theorem dX2_addJoint_91 : decode cX2_addJoint 91 = .ok (.getfield 50, 3) := by decide +kernel
theorem dX2_addJoint_94 : decode cX2_addJoint 94 = .ok (.iload_n 2, 1) := by decide +kernel
theorem dX2_addJoint_95 : decode cX2_addJoint 95 = .ok (.iastore, 1) := by decide +kernel
theorem dX2_addJoint_96 : decode cX2_addJoint 96 = .ok (.aload_n 0, 1) := by decide +kernel
theorem dX2_addJoint_97 : decode cX2_addJoint 97 = .ok (.getfield 33, 3) := by decide +kernel
theorem dX2_addJoint_100 : decode cX2_addJoint 100 = .ok (.aload_n 0, 1) := by decide +kernel
theorem dX2_addJoint_101 : decode cX2_addJoint 101 = .ok (.getfield 50, 3) := by decide +kernel
theorem dX2_addJoint_104 : decode cX2_addJoint 104 = .ok (.iload_n 3, 1) := by decide +kernel
theorem dX2_addJoint_105 : decode cX2_addJoint 105 = .ok (.iastore, 1) := by decide +kernel
theorem dX2_addJoint_106 : decode cX2_addJoint 106 = .ok (.aload_n 0, 1) := by decide +kernel
theorem dX2_addJoint_107 : decode cX2_addJoint 107 = .ok (.getfield 36, 3) := by decide +kernel
theorem dX2_addJoint_110 : decode cX2_addJoint 110 = .ok (.aload_n 0, 1) := by decide +kernel
theorem dX2_addJoint_111 : decode cX2_addJoint 111 = .ok (.getfield 50, 3) := by decide +kernel
theorem dX2_addJoint_114 : decode cX2_addJoint 114 = .ok (.iload 4, 2) := by decide +kernel
theorem dX2_addJoint_116 : decode cX2_addJoint 116 = .ok (.iastore, 1) := by decide +kernel
theorem dX2_addJoint_117 : decode cX2_addJoint 117 = .ok (.aload_n 0, 1) := by decide +kernel
theorem dX2_addJoint_118 : decode cX2_addJoint 118 = .ok (.dup, 1) := by decide +kernel
theorem dX2_addJoint_119 : decode cX2_addJoint 119 = .ok (.getfield 50, 3) := by decide +kernel
theorem dX2_addJoint_122 : decode cX2_addJoint 122 = .ok (.iconst 1, 1) := by decide +kernel
theorem dX2_addJoint_123 : decode cX2_addJoint 123 = .ok (.iadd, 1) := by decide +kernel
theorem dX2_addJoint_124 : decode cX2_addJoint 124 = .ok (.putfield 50, 3) := by decide +kernel
theorem dX2_addJoint_127 : decode cX2_addJoint 127 = .ok (.aload_n 0, 1) := by decide +kernel
theorem dX2_addJoint_128 : decode cX2_addJoint 128 = .ok (.getfield 50, 3) := by decide +kernel
theorem dX2_addJoint_131 : decode cX2_addJoint 131 = .ok (.iconst 1, 1) := by decide +kernel
theorem dX2_addJoint_132 : decode cX2_addJoint 132 = .ok (.isub, 1) := by decide +kernel
theorem dX2_addJoint_133 : decode cX2_addJoint 133 = .ok (.ireturn, 1) := by decide +kernel
theorem dX2_isPiece_0 : decode cX2_isPiece 0 = .ok (.iload_n 1, 1) := by decide +kernel
theorem dX2_isPiece_1 : decode cX2_isPiece 1 = .ok (.ifCond .lt 15, 3) := by decide +kernel
theorem dX2_isPiece_4 : decode cX2_isPiece 4 = .ok (.iload_n 1, 1) := by decide +kernel
theorem dX2_isPiece_5 : decode cX2_isPiece 5 = .ok (.aload_n 0, 1) := by decide +kernel
theorem dX2_isPiece_6 : decode cX2_isPiece 6 = .ok (.getfield 42, 3) := by decide +kernel
theorem dX2_isPiece_9 : decode cX2_isPiece 9 = .ok (.if_icmp .ge 7, 3) := by decide +kernel
theorem dX2_isPiece_12 : decode cX2_isPiece 12 = .ok (.iconst 1, 1) := by decide +kernel
theorem dX2_isPiece_13 : decode cX2_isPiece 13 = .ok (.goto 4, 3) := by decide +kernel
theorem dX2_isPiece_16 : decode cX2_isPiece 16 = .ok (.iconst 0, 1) := by decide +kernel
theorem dX2_isPiece_17 : decode cX2_isPiece 17 = .ok (.ireturn, 1) := by decide +kernel
theorem dX2_canPlay_0 : decode cX2_canPlay 0 = .ok (.aload_n 0, 1) := by decide +kernel
theorem dX2_canPlay_1 : decode cX2_canPlay 1 = .ok (.iload_n 1, 1) := by decide +kernel
theorem dX2_canPlay_2 : decode cX2_canPlay 2 = .ok (.invokevirtual 57, 3) := by decide +kernel
theorem dX2_canPlay_5 : decode cX2_canPlay 5 = .ok (.ifCond .eq 26, 3) := by decide +kernel
theorem dX2_canPlay_8 : decode cX2_canPlay 8 = .ok (.aload_n 0, 1) := by decide +kernel
theorem dX2_canPlay_9 : decode cX2_canPlay 9 = .ok (.getfield 9, 3) := by decide +kernel
theorem dX2_canPlay_12 : decode cX2_canPlay 12 = .ok (.iload_n 1, 1) := by decide +kernel
theorem dX2_canPlay_13 : decode cX2_canPlay 13 = .ok (.iaload, 1) := by decide +kernel
theorem dX2_canPlay_14 : decode cX2_canPlay 14 = .ok (.ifCond .eq 13, 3) := by decide +kernel
theorem dX2_canPlay_17 : decode cX2_canPlay 17 = .ok (.aload_n 0, 1) := by decide +kernel
theorem dX2_canPlay_18 : decode cX2_canPlay 18 = .ok (.getfield 9, 3) := by decide +kernel
theorem dX2_canPlay_21 : decode cX2_canPlay 21 = .ok (.iload_n 1, 1) := by decide +kernel
theorem dX2_canPlay_22 : decode cX2_canPlay 22 = .ok (.iaload, 1) := by decide +kernel
theorem dX2_canPlay_23 : decode cX2_canPlay 23 = .ok (.iconst 1, 1) := by decide +kernel
theorem dX2_canPlay_24 : decode cX2_canPlay 24 = .ok (.if_icmp .ne 7, 3) := by decide +kernel
theorem dX2_canPlay_27 : decode cX2_canPlay 27 = .ok (.iconst 1, 1) := by decide +kernel
theorem dX2_canPlay_28 : decode cX2_canPlay 28 = .ok (.goto 4, 3) := by decide +kernel
theorem dX2_canPlay_31 : decode cX2_canPlay 31 = .ok (.iconst 0, 1) := by decide +kernel
theorem dX2_canPlay_32 : decode cX2_canPlay 32 = .ok (.ireturn, 1) := by decide +kernel
theorem dX2_hasMood_0 : decode cX2_hasMood 0 = .ok (.aload_n 0, 1) := by decide +kernel
theorem dX2_hasMood_1 : decode cX2_hasMood 1 = .ok (.getfield 21, 3) := by decide +kernel
theorem dX2_hasMood_4 : decode cX2_hasMood 4 = .ok (.iload_n 1, 1) := by decide +kernel
theorem dX2_hasMood_5 : decode cX2_hasMood 5 = .ok (.iaload, 1) := by decide +kernel
theorem dX2_hasMood_6 : decode cX2_hasMood 6 = .ok (.iload_n 2, 1) := by decide +kernel
theorem dX2_hasMood_7 : decode cX2_hasMood 7 = .ok (.ishr, 1) := by decide +kernel
theorem dX2_hasMood_8 : decode cX2_hasMood 8 = .ok (.iconst 1, 1) := by decide +kernel
theorem dX2_hasMood_9 : decode cX2_hasMood 9 = .ok (.iand, 1) := by decide +kernel
theorem dX2_hasMood_10 : decode cX2_hasMood 10 = .ok (.ifCond .eq 7, 3) := by decide +kernel
theorem dX2_hasMood_13 : decode cX2_hasMood 13 = .ok (.iconst 1, 1) := by decide +kernel
theorem dX2_hasMood_14 : decode cX2_hasMood 14 = .ok (.goto 4, 3) := by decide +kernel
theorem dX2_hasMood_17 : decode cX2_hasMood 17 = .ok (.iconst 0, 1) := by decide +kernel
theorem dX2_hasMood_18 : decode cX2_hasMood 18 = .ok (.ireturn, 1) := by decide +kernel
theorem dX2_isMultiple_0 : decode cX2_isMultiple 0 = .ok (.aload_n 0, 1) := by decide +kernel
theorem dX2_isMultiple_1 : decode cX2_isMultiple 1 = .ok (.getfield 15, 3) := by decide +kernel
theorem dX2_isMultiple_4 : decode cX2_isMultiple 4 = .ok (.iload_n 2, 1) := by decide +kernel
theorem dX2_isMultiple_5 : decode cX2_isMultiple 5 = .ok (.iaload, 1) := by decide +kernel
theorem dX2_isMultiple_6 : decode cX2_isMultiple 6 = .ok (.ifCond .le 18, 3) := by decide +kernel
theorem dX2_isMultiple_9 : decode cX2_isMultiple 9 = .ok (.iload_n 1, 1) := by decide +kernel
theorem dX2_isMultiple_10 : decode cX2_isMultiple 10 = .ok (.aload_n 0, 1) := by decide +kernel
theorem dX2_isMultiple_11 : decode cX2_isMultiple 11 = .ok (.getfield 15, 3) := by decide +kernel
theorem dX2_isMultiple_14 : decode cX2_isMultiple 14 = .ok (.iload_n 2, 1) := by decide +kernel
theorem dX2_isMultiple_15 : decode cX2_isMultiple 15 = .ok (.iaload, 1) := by decide +kernel
theorem dX2_isMultiple_16 : decode cX2_isMultiple 16 = .ok (.irem, 1) := by decide +kernel
theorem dX2_isMultiple_17 : decode cX2_isMultiple 17 = .ok (.ifCond .ne 7, 3) := by decide +kernel
theorem dX2_isMultiple_20 : decode cX2_isMultiple 20 = .ok (.iconst 1, 1) := by decide +kernel
theorem dX2_isMultiple_21 : decode cX2_isMultiple 21 = .ok (.goto 4, 3) := by decide +kernel
theorem dX2_isMultiple_24 : decode cX2_isMultiple 24 = .ok (.iconst 0, 1) := by decide +kernel
theorem dX2_isMultiple_25 : decode cX2_isMultiple 25 = .ok (.ireturn, 1) := by decide +kernel
theorem dX2_length_0 : decode cX2_length 0 = .ok (.aload_n 0, 1) := by decide +kernel
theorem dX2_length_1 : decode cX2_length 1 = .ok (.getfield 15, 3) := by decide +kernel
theorem dX2_length_4 : decode cX2_length 4 = .ok (.iload_n 1, 1) := by decide +kernel
theorem dX2_length_5 : decode cX2_length 5 = .ok (.iaload, 1) := by decide +kernel
theorem dX2_length_6 : decode cX2_length 6 = .ok (.i2l, 1) := by decide +kernel
theorem dX2_length_7 : decode cX2_length 7 = .ok (.aload_n 0, 1) := by decide +kernel
theorem dX2_length_8 : decode cX2_length 8 = .ok (.getfield 18, 3) := by decide +kernel
theorem dX2_length_11 : decode cX2_length 11 = .ok (.iload_n 1, 1) := by decide +kernel
theorem dX2_length_12 : decode cX2_length 12 = .ok (.iaload, 1) := by decide +kernel
theorem dX2_length_13 : decode cX2_length 13 = .ok (.i2l, 1) := by decide +kernel
theorem dX2_length_14 : decode cX2_length 14 = .ok (.lmul, 1) := by decide +kernel
theorem dX2_length_15 : decode cX2_length 15 = .ok (.lreturn, 1) := by decide +kernel
theorem dX2_timeTo_0 : decode cX2_timeTo 0 = .ok (.aload_n 0, 1) := by decide +kernel
theorem dX2_timeTo_1 : decode cX2_timeTo 1 = .ok (.getfield 30, 3) := by decide +kernel
theorem dX2_timeTo_4 : decode cX2_timeTo 4 = .ok (.iload_n 1, 1) := by decide +kernel
theorem dX2_timeTo_5 : decode cX2_timeTo 5 = .ok (.iaload, 1) := by decide +kernel
theorem dX2_timeTo_6 : decode cX2_timeTo 6 = .ok (.i2l, 1) := by decide +kernel
theorem dX2_timeTo_7 : decode cX2_timeTo 7 = .ok (.aload_n 0, 1) := by decide +kernel
theorem dX2_timeTo_8 : decode cX2_timeTo 8 = .ok (.getfield 18, 3) := by decide +kernel
theorem dX2_timeTo_11 : decode cX2_timeTo 11 = .ok (.aload_n 0, 1) := by decide +kernel
theorem dX2_timeTo_12 : decode cX2_timeTo 12 = .ok (.getfield 27, 3) := by decide +kernel
theorem dX2_timeTo_15 : decode cX2_timeTo 15 = .ok (.iload_n 1, 1) := by decide +kernel
theorem dX2_timeTo_16 : decode cX2_timeTo 16 = .ok (.iaload, 1) := by decide +kernel
theorem dX2_timeTo_17 : decode cX2_timeTo 17 = .ok (.iaload, 1) := by decide +kernel
theorem dX2_timeTo_18 : decode cX2_timeTo 18 = .ok (.i2l, 1) := by decide +kernel
theorem dX2_timeTo_19 : decode cX2_timeTo 19 = .ok (.lmul, 1) := by decide +kernel
theorem dX2_timeTo_20 : decode cX2_timeTo 20 = .ok (.lreturn, 1) := by decide +kernel
theorem dX2_cheapestAtEnd_0 : decode cX2_cheapestAtEnd 0 = .ok (.iconst (-1), 1) := by decide +kernel
theorem dX2_cheapestAtEnd_1 : decode cX2_cheapestAtEnd 1 = .ok (.istore_n 2, 1) := by decide +kernel
theorem dX2_cheapestAtEnd_2 : decode cX2_cheapestAtEnd 2 = .ok (.iconst 0, 1) := by decide +kernel
theorem dX2_cheapestAtEnd_3 : decode cX2_cheapestAtEnd 3 = .ok (.istore_n 3, 1) := by decide +kernel
theorem dX2_cheapestAtEnd_4 : decode cX2_cheapestAtEnd 4 = .ok (.iload_n 3, 1) := by decide +kernel
theorem dX2_cheapestAtEnd_5 : decode cX2_cheapestAtEnd 5 = .ok (.aload_n 0, 1) := by decide +kernel
theorem dX2_cheapestAtEnd_6 : decode cX2_cheapestAtEnd 6 = .ok (.getfield 50, 3) := by decide +kernel
theorem dX2_cheapestAtEnd_9 : decode cX2_cheapestAtEnd 9 = .ok (.if_icmp .ge 68, 3) := by decide +kernel
theorem dX2_cheapestAtEnd_12 : decode cX2_cheapestAtEnd 12 = .ok (.aload_n 0, 1) := by decide +kernel
theorem dX2_cheapestAtEnd_13 : decode cX2_cheapestAtEnd 13 = .ok (.getfield 27, 3) := by decide +kernel
theorem dX2_cheapestAtEnd_16 : decode cX2_cheapestAtEnd 16 = .ok (.iload_n 3, 1) := by decide +kernel
theorem dX2_cheapestAtEnd_17 : decode cX2_cheapestAtEnd 17 = .ok (.iaload, 1) := by decide +kernel
theorem dX2_cheapestAtEnd_18 : decode cX2_cheapestAtEnd 18 = .ok (.iload_n 1, 1) := by decide +kernel
theorem dX2_cheapestAtEnd_19 : decode cX2_cheapestAtEnd 19 = .ok (.if_icmp .ne 22, 3) := by decide +kernel
theorem dX2_cheapestAtEnd_22 : decode cX2_cheapestAtEnd 22 = .ok (.aload_n 0, 1) := by decide +kernel
theorem dX2_cheapestAtEnd_23 : decode cX2_cheapestAtEnd 23 = .ok (.getfield 30, 3) := by decide +kernel
theorem dX2_cheapestAtEnd_26 : decode cX2_cheapestAtEnd 26 = .ok (.iload_n 3, 1) := by decide +kernel
theorem dX2_cheapestAtEnd_27 : decode cX2_cheapestAtEnd 27 = .ok (.iaload, 1) := by decide +kernel
theorem dX2_cheapestAtEnd_28 : decode cX2_cheapestAtEnd 28 = .ok (.aload_n 0, 1) := by decide +kernel
theorem dX2_cheapestAtEnd_29 : decode cX2_cheapestAtEnd 29 = .ok (.getfield 15, 3) := by decide +kernel
theorem dX2_cheapestAtEnd_32 : decode cX2_cheapestAtEnd 32 = .ok (.iload_n 1, 1) := by decide +kernel
theorem dX2_cheapestAtEnd_33 : decode cX2_cheapestAtEnd 33 = .ok (.iaload, 1) := by decide +kernel
theorem dX2_cheapestAtEnd_34 : decode cX2_cheapestAtEnd 34 = .ok (.if_icmp .ne 7, 3) := by decide +kernel
theorem dX2_cheapestAtEnd_37 : decode cX2_cheapestAtEnd 37 = .ok (.iconst 1, 1) := by decide +kernel
theorem dX2_cheapestAtEnd_38 : decode cX2_cheapestAtEnd 38 = .ok (.goto 4, 3) := by decide +kernel
theorem dX2_cheapestAtEnd_41 : decode cX2_cheapestAtEnd 41 = .ok (.iconst 0, 1) := by decide +kernel
theorem dX2_cheapestAtEnd_42 : decode cX2_cheapestAtEnd 42 = .ok (.istore 4, 2) := by decide +kernel
theorem dX2_cheapestAtEnd_44 : decode cX2_cheapestAtEnd 44 = .ok (.iload 4, 2) := by decide +kernel
theorem dX2_cheapestAtEnd_46 : decode cX2_cheapestAtEnd 46 = .ok (.ifCond .eq 25, 3) := by decide +kernel
theorem dX2_cheapestAtEnd_49 : decode cX2_cheapestAtEnd 49 = .ok (.iload_n 2, 1) := by decide +kernel
theorem dX2_cheapestAtEnd_50 : decode cX2_cheapestAtEnd 50 = .ok (.iconst (-1), 1) := by decide +kernel
theorem dX2_cheapestAtEnd_51 : decode cX2_cheapestAtEnd 51 = .ok (.if_icmp .eq 18, 3) := by decide +kernel
theorem dX2_cheapestAtEnd_54 : decode cX2_cheapestAtEnd 54 = .ok (.aload_n 0, 1) := by decide +kernel
theorem dX2_cheapestAtEnd_55 : decode cX2_cheapestAtEnd 55 = .ok (.getfield 36, 3) := by decide +kernel
theorem dX2_cheapestAtEnd_58 : decode cX2_cheapestAtEnd 58 = .ok (.iload_n 3, 1) := by decide +kernel
theorem dX2_cheapestAtEnd_59 : decode cX2_cheapestAtEnd 59 = .ok (.iaload, 1) := by decide +kernel
theorem dX2_cheapestAtEnd_60 : decode cX2_cheapestAtEnd 60 = .ok (.aload_n 0, 1) := by decide +kernel
theorem dX2_cheapestAtEnd_61 : decode cX2_cheapestAtEnd 61 = .ok (.getfield 36, 3) := by decide +kernel
theorem dX2_cheapestAtEnd_64 : decode cX2_cheapestAtEnd 64 = .ok (.iload_n 2, 1) := by decide +kernel
theorem dX2_cheapestAtEnd_65 : decode cX2_cheapestAtEnd 65 = .ok (.iaload, 1) := by decide +kernel
theorem dX2_cheapestAtEnd_66 : decode cX2_cheapestAtEnd 66 = .ok (.if_icmp .ge 5, 3) := by decide +kernel
theorem dX2_cheapestAtEnd_69 : decode cX2_cheapestAtEnd 69 = .ok (.iload_n 3, 1) := by decide +kernel
theorem dX2_cheapestAtEnd_70 : decode cX2_cheapestAtEnd 70 = .ok (.istore_n 2, 1) := by decide +kernel
theorem dX2_cheapestAtEnd_71 : decode cX2_cheapestAtEnd 71 = .ok (.iinc 3 1, 3) := by decide +kernel
theorem dX2_cheapestAtEnd_74 : decode cX2_cheapestAtEnd 74 = .ok (.goto (-70), 3) := by decide +kernel
theorem dX2_cheapestAtEnd_77 : decode cX2_cheapestAtEnd 77 = .ok (.iload_n 2, 1) := by decide +kernel
theorem dX2_cheapestAtEnd_78 : decode cX2_cheapestAtEnd 78 = .ok (.ireturn, 1) := by decide +kernel
theorem dX2_firstWithMood_0 : decode cX2_firstWithMood 0 = .ok (.iconst 0, 1) := by decide +kernel
theorem dX2_firstWithMood_1 : decode cX2_firstWithMood 1 = .ok (.istore_n 2, 1) := by decide +kernel
theorem dX2_firstWithMood_2 : decode cX2_firstWithMood 2 = .ok (.iload_n 2, 1) := by decide +kernel
theorem dX2_firstWithMood_3 : decode cX2_firstWithMood 3 = .ok (.aload_n 0, 1) := by decide +kernel
theorem dX2_firstWithMood_4 : decode cX2_firstWithMood 4 = .ok (.getfield 42, 3) := by decide +kernel
theorem dX2_firstWithMood_7 : decode cX2_firstWithMood 7 = .ok (.if_icmp .ge 20, 3) := by decide +kernel
theorem dX2_firstWithMood_10 : decode cX2_firstWithMood 10 = .ok (.aload_n 0, 1) := by decide +kernel
theorem dX2_firstWithMood_11 : decode cX2_firstWithMood 11 = .ok (.iload_n 2, 1) := by decide +kernel
theorem dX2_firstWithMood_12 : decode cX2_firstWithMood 12 = .ok (.iload_n 1, 1) := by decide +kernel
theorem dX2_firstWithMood_13 : decode cX2_firstWithMood 13 = .ok (.invokevirtual 60, 3) := by decide +kernel
theorem dX2_firstWithMood_16 : decode cX2_firstWithMood 16 = .ok (.ifCond .eq 5, 3) := by decide +kernel
theorem dX2_firstWithMood_19 : decode cX2_firstWithMood 19 = .ok (.iload_n 2, 1) := by decide +kernel
theorem dX2_firstWithMood_20 : decode cX2_firstWithMood 20 = .ok (.ireturn, 1) := by decide +kernel
theorem dX2_firstWithMood_21 : decode cX2_firstWithMood 21 = .ok (.iinc 2 1, 3) := by decide +kernel
theorem dX2_firstWithMood_24 : decode cX2_firstWithMood 24 = .ok (.goto (-22), 3) := by decide +kernel
theorem dX2_firstWithMood_27 : decode cX2_firstWithMood 27 = .ok (.iconst (-1), 1) := by decide +kernel
theorem dX2_firstWithMood_28 : decode cX2_firstWithMood 28 = .ok (.ireturn, 1) := by decide +kernel
theorem dX2_firstComeTo_0 : decode cX2_firstComeTo 0 = .ok (.iconst 1, 1) := by decide +kernel
theorem dX2_firstComeTo_1 : decode cX2_firstComeTo 1 = .ok (.iload_n 1, 1) := by decide +kernel
theorem dX2_firstComeTo_2 : decode cX2_firstComeTo 2 = .ok (.ishl, 1) := by decide +kernel
theorem dX2_firstComeTo_3 : decode cX2_firstComeTo 3 = .ok (.istore_n 2, 1) := by decide +kernel
theorem dX2_firstComeTo_4 : decode cX2_firstComeTo 4 = .ok (.iconst 1, 1) := by decide +kernel
theorem dX2_firstComeTo_5 : decode cX2_firstComeTo 5 = .ok (.istore_n 3, 1) := by decide +kernel
theorem dX2_firstComeTo_6 : decode cX2_firstComeTo 6 = .ok (.iconst 0, 1) := by decide +kernel
theorem dX2_firstComeTo_7 : decode cX2_firstComeTo 7 = .ok (.istore 4, 2) := by decide +kernel
theorem dX2_firstComeTo_9 : decode cX2_firstComeTo 9 = .ok (.iload 4, 2) := by decide +kernel
theorem dX2_firstComeTo_11 : decode cX2_firstComeTo 11 = .ok (.aload_n 0, 1) := by decide +kernel
theorem dX2_firstComeTo_12 : decode cX2_firstComeTo 12 = .ok (.getfield 42, 3) := by decide +kernel
theorem dX2_firstComeTo_15 : decode cX2_firstComeTo 15 = .ok (.if_icmp .ge 72, 3) := by decide +kernel
theorem dX2_firstComeTo_18 : decode cX2_firstComeTo 18 = .ok (.iload_n 3, 1) := by decide +kernel
theorem dX2_firstComeTo_19 : decode cX2_firstComeTo 19 = .ok (.ifCond .eq 68, 3) := by decide +kernel
theorem dX2_firstComeTo_22 : decode cX2_firstComeTo 22 = .ok (.iload_n 2, 1) := by decide +kernel
theorem dX2_firstComeTo_23 : decode cX2_firstComeTo 23 = .ok (.istore 5, 2) := by decide +kernel
theorem dX2_firstComeTo_25 : decode cX2_firstComeTo 25 = .ok (.iconst 0, 1) := by decide +kernel
theorem dX2_firstComeTo_26 : decode cX2_firstComeTo 26 = .ok (.istore 6, 2) := by decide +kernel
theorem dX2_firstComeTo_28 : decode cX2_firstComeTo 28 = .ok (.iload 6, 2) := by decide +kernel
theorem dX2_firstComeTo_30 : decode cX2_firstComeTo 30 = .ok (.aload_n 0, 1) := by decide +kernel
theorem dX2_firstComeTo_31 : decode cX2_firstComeTo 31 = .ok (.getfield 50, 3) := by decide +kernel
theorem dX2_firstComeTo_34 : decode cX2_firstComeTo 34 = .ok (.if_icmp .ge 35, 3) := by decide +kernel
theorem dX2_firstComeTo_37 : decode cX2_firstComeTo 37 = .ok (.iload_n 2, 1) := by decide +kernel
theorem dX2_firstComeTo_38 : decode cX2_firstComeTo 38 = .ok (.aload_n 0, 1) := by decide +kernel
theorem dX2_firstComeTo_39 : decode cX2_firstComeTo 39 = .ok (.getfield 27, 3) := by decide +kernel
theorem dX2_firstComeTo_42 : decode cX2_firstComeTo 42 = .ok (.iload 6, 2) := by decide +kernel
theorem dX2_firstComeTo_44 : decode cX2_firstComeTo 44 = .ok (.iaload, 1) := by decide +kernel
theorem dX2_firstComeTo_45 : decode cX2_firstComeTo 45 = .ok (.ishr, 1) := by decide +kernel
theorem dX2_firstComeTo_46 : decode cX2_firstComeTo 46 = .ok (.iconst 1, 1) := by decide +kernel
theorem dX2_firstComeTo_47 : decode cX2_firstComeTo 47 = .ok (.iand, 1) := by decide +kernel
theorem dX2_firstComeTo_48 : decode cX2_firstComeTo 48 = .ok (.ifCond .eq 15, 3) := by decide +kernel
theorem dX2_firstComeTo_51 : decode cX2_firstComeTo 51 = .ok (.iload_n 2, 1) := by decide +kernel
theorem dX2_firstComeTo_52 : decode cX2_firstComeTo 52 = .ok (.iconst 1, 1) := by decide +kernel
theorem dX2_firstComeTo_53 : decode cX2_firstComeTo 53 = .ok (.aload_n 0, 1) := by decide +kernel
theorem dX2_firstComeTo_54 : decode cX2_firstComeTo 54 = .ok (.getfield 33, 3) := by decide +kernel
theorem dX2_firstComeTo_57 : decode cX2_firstComeTo 57 = .ok (.iload 6, 2) := by decide +kernel
theorem dX2_firstComeTo_59 : decode cX2_firstComeTo 59 = .ok (.iaload, 1) := by decide +kernel
theorem dX2_firstComeTo_60 : decode cX2_firstComeTo 60 = .ok (.ishl, 1) := by decide +kernel
theorem dX2_firstComeTo_61 : decode cX2_firstComeTo 61 = .ok (.ior, 1) := by decide +kernel
theorem dX2_firstComeTo_62 : decode cX2_firstComeTo 62 = .ok (.istore_n 2, 1) := by decide +kernel
theorem dX2_firstComeTo_63 : decode cX2_firstComeTo 63 = .ok (.iinc 6 1, 3) := by decide +kernel
theorem dX2_firstComeTo_66 : decode cX2_firstComeTo 66 = .ok (.goto (-38), 3) := by decide +kernel
theorem dX2_firstComeTo_69 : decode cX2_firstComeTo 69 = .ok (.iload_n 2, 1) := by decide +kernel
theorem dX2_firstComeTo_70 : decode cX2_firstComeTo 70 = .ok (.iload 5, 2) := by decide +kernel
theorem dX2_firstComeTo_72 : decode cX2_firstComeTo 72 = .ok (.if_icmp .eq 7, 3) := by decide +kernel
theorem dX2_firstComeTo_75 : decode cX2_firstComeTo 75 = .ok (.iconst 1, 1) := by decide +kernel
theorem dX2_firstComeTo_76 : decode cX2_firstComeTo 76 = .ok (.goto 4, 3) := by decide +kernel
theorem dX2_firstComeTo_79 : decode cX2_firstComeTo 79 = .ok (.iconst 0, 1) := by decide +kernel
theorem dX2_firstComeTo_80 : decode cX2_firstComeTo 80 = .ok (.istore_n 3, 1) := by decide +kernel
theorem dX2_firstComeTo_81 : decode cX2_firstComeTo 81 = .ok (.iinc 4 1, 3) := by decide +kernel
theorem dX2_firstComeTo_84 : decode cX2_firstComeTo 84 = .ok (.goto (-75), 3) := by decide +kernel
theorem dX2_firstComeTo_87 : decode cX2_firstComeTo 87 = .ok (.iconst 0, 1) := by decide +kernel
theorem dX2_firstComeTo_88 : decode cX2_firstComeTo 88 = .ok (.istore 4, 2) := by decide +kernel
theorem dX2_firstComeTo_90 : decode cX2_firstComeTo 90 = .ok (.iload 4, 2) := by decide +kernel
theorem dX2_firstComeTo_92 : decode cX2_firstComeTo 92 = .ok (.iload_n 1, 1) := by decide +kernel
theorem dX2_firstComeTo_93 : decode cX2_firstComeTo 93 = .ok (.if_icmp .ge 18, 3) := by decide +kernel
theorem dX2_firstComeTo_96 : decode cX2_firstComeTo 96 = .ok (.iload_n 2, 1) := by decide +kernel
theorem dX2_firstComeTo_97 : decode cX2_firstComeTo 97 = .ok (.iload 4, 2) := by decide +kernel
theorem dX2_firstComeTo_99 : decode cX2_firstComeTo 99 = .ok (.ishr, 1) := by decide +kernel
theorem dX2_firstComeTo_100 : decode cX2_firstComeTo 100 = .ok (.iconst 1, 1) := by decide +kernel
theorem dX2_firstComeTo_101 : decode cX2_firstComeTo 101 = .ok (.iand, 1) := by decide +kernel
theorem dX2_firstComeTo_102 : decode cX2_firstComeTo 102 = .ok (.ifCond .ne 9, 3) := by decide +kernel
theorem dX2_firstComeTo_105 : decode cX2_firstComeTo 105 = .ok (.iinc 4 1, 3) := by decide +kernel
theorem dX2_firstComeTo_108 : decode cX2_firstComeTo 108 = .ok (.goto (-18), 3) := by decide +kernel
theorem dX2_firstComeTo_111 : decode cX2_firstComeTo 111 = .ok (.iload 4, 2) := by decide +kernel
theorem dX2_firstComeTo_113 : decode cX2_firstComeTo 113 = .ok (.ireturn, 1) := by decide +kernel
theorem dX2_isJoint_0 : decode cX2_isJoint 0 = .ok (.iconst 0, 1) := by decide +kernel
theorem dX2_isJoint_1 : decode cX2_isJoint 1 = .ok (.istore 4, 2) := by decide +kernel
theorem dX2_isJoint_3 : decode cX2_isJoint 3 = .ok (.iload 4, 2) := by decide +kernel
theorem dX2_isJoint_5 : decode cX2_isJoint 5 = .ok (.aload_n 0, 1) := by decide +kernel
theorem dX2_isJoint_6 : decode cX2_isJoint 6 = .ok (.getfield 50, 3) := by decide +kernel
theorem dX2_isJoint_9 : decode cX2_isJoint 9 = .ok (.if_icmp .ge 44, 3) := by decide +kernel
theorem dX2_isJoint_12 : decode cX2_isJoint 12 = .ok (.aload_n 0, 1) := by decide +kernel
theorem dX2_isJoint_13 : decode cX2_isJoint 13 = .ok (.getfield 27, 3) := by decide +kernel
theorem dX2_isJoint_16 : decode cX2_isJoint 16 = .ok (.iload 4, 2) := by decide +kernel
theorem dX2_isJoint_18 : decode cX2_isJoint 18 = .ok (.iaload, 1) := by decide +kernel
theorem dX2_isJoint_19 : decode cX2_isJoint 19 = .ok (.iload_n 1, 1) := by decide +kernel
theorem dX2_isJoint_20 : decode cX2_isJoint 20 = .ok (.if_icmp .ne 27, 3) := by decide +kernel
theorem dX2_isJoint_23 : decode cX2_isJoint 23 = .ok (.aload_n 0, 1) := by decide +kernel
theorem dX2_isJoint_24 : decode cX2_isJoint 24 = .ok (.getfield 30, 3) := by decide +kernel
theorem dX2_isJoint_27 : decode cX2_isJoint 27 = .ok (.iload 4, 2) := by decide +kernel
theorem dX2_isJoint_29 : decode cX2_isJoint 29 = .ok (.iaload, 1) := by decide +kernel
theorem dX2_isJoint_30 : decode cX2_isJoint 30 = .ok (.iload_n 2, 1) := by decide +kernel
theorem dX2_isJoint_31 : decode cX2_isJoint 31 = .ok (.if_icmp .ne 16, 3) := by decide +kernel
theorem dX2_isJoint_34 : decode cX2_isJoint 34 = .ok (.aload_n 0, 1) := by decide +kernel
theorem dX2_isJoint_35 : decode cX2_isJoint 35 = .ok (.getfield 33, 3) := by decide +kernel
theorem dX2_isJoint_38 : decode cX2_isJoint 38 = .ok (.iload 4, 2) := by decide +kernel
theorem dX2_isJoint_40 : decode cX2_isJoint 40 = .ok (.iaload, 1) := by decide +kernel
theorem dX2_isJoint_41 : decode cX2_isJoint 41 = .ok (.iload_n 3, 1) := by decide +kernel
theorem dX2_isJoint_42 : decode cX2_isJoint 42 = .ok (.if_icmp .ne 5, 3) := by decide +kernel
theorem dX2_isJoint_45 : decode cX2_isJoint 45 = .ok (.iconst 1, 1) := by decide +kernel
theorem dX2_isJoint_46 : decode cX2_isJoint 46 = .ok (.ireturn, 1) := by decide +kernel
theorem dX2_isJoint_47 : decode cX2_isJoint 47 = .ok (.iinc 4 1, 3) := by decide +kernel
theorem dX2_isJoint_50 : decode cX2_isJoint 50 = .ok (.goto (-47), 3) := by decide +kernel
theorem dX2_isJoint_53 : decode cX2_isJoint 53 = .ok (.iconst 0, 1) := by decide +kernel
theorem dX2_isJoint_54 : decode cX2_isJoint 54 = .ok (.ireturn, 1) := by decide +kernel
theorem dX3_init_0 : decode cX3_init 0 = .ok (.aload_n 0, 1) := by decide +kernel
theorem dX3_init_1 : decode cX3_init 1 = .ok (.invokespecial 3, 3) := by decide +kernel
theorem dX3_init_4 : decode cX3_init 4 = .ok (.aload_n 0, 1) := by decide +kernel
theorem dX3_init_5 : decode cX3_init 5 = .ok (.iconst (-1), 1) := by decide +kernel
theorem dX3_init_6 : decode cX3_init 6 = .ok (.putfield 9, 3) := by decide +kernel
theorem dX3_init_9 : decode cX3_init 9 = .ok (.aload_n 0, 1) := by decide +kernel
theorem dX3_init_10 : decode cX3_init 10 = .ok (.iconst (-1), 1) := by decide +kernel
theorem dX3_init_11 : decode cX3_init 11 = .ok (.putfield 15, 3) := by decide +kernel
theorem dX3_init_14 : decode cX3_init 14 = .ok (.aload_n 0, 1) := by decide +kernel
theorem dX3_init_15 : decode cX3_init 15 = .ok (.bipush 20, 2) := by decide +kernel
theorem dX3_init_17 : decode cX3_init 17 = .ok (.newarray .int, 2) := by decide +kernel
theorem dX3_init_19 : decode cX3_init 19 = .ok (.putfield 18, 3) := by decide +kernel
theorem dX3_init_22 : decode cX3_init 22 = .ok (.aload_n 0, 1) := by decide +kernel
theorem dX3_init_23 : decode cX3_init 23 = .ok (.bipush 20, 2) := by decide +kernel
theorem dX3_init_25 : decode cX3_init 25 = .ok (.newarray .int, 2) := by decide +kernel
theorem dX3_init_27 : decode cX3_init 27 = .ok (.putfield 22, 3) := by decide +kernel
theorem dX3_init_30 : decode cX3_init 30 = .ok (.aload_n 0, 1) := by decide +kernel
theorem dX3_init_31 : decode cX3_init 31 = .ok (.iconst 4, 1) := by decide +kernel
theorem dX3_init_32 : decode cX3_init 32 = .ok (.newarray .int, 2) := by decide +kernel
theorem dX3_init_34 : decode cX3_init 34 = .ok (.putfield 25, 3) := by decide +kernel
theorem dX3_init_37 : decode cX3_init 37 = .ok (.aload_n 0, 1) := by decide +kernel
theorem dX3_init_38 : decode cX3_init 38 = .ok (.iconst (-1), 1) := by decide +kernel
theorem dX3_init_39 : decode cX3_init 39 = .ok (.putfield 28, 3) := by decide +kernel
theorem dX3_init_42 : decode cX3_init 42 = .ok (.return_, 1) := by decide +kernel
theorem dX3_copyFrom_0 : decode cX3_copyFrom 0 = .ok (.aload_n 0, 1) := by decide +kernel
theorem dX3_copyFrom_1 : decode cX3_copyFrom 1 = .ok (.aload_n 1, 1) := by decide +kernel
theorem dX3_copyFrom_2 : decode cX3_copyFrom 2 = .ok (.getfield 31, 3) := by decide +kernel
theorem dX3_copyFrom_5 : decode cX3_copyFrom 5 = .ok (.putfield 31, 3) := by decide +kernel
theorem dX3_copyFrom_8 : decode cX3_copyFrom 8 = .ok (.aload_n 0, 1) := by decide +kernel
theorem dX3_copyFrom_9 : decode cX3_copyFrom 9 = .ok (.aload_n 1, 1) := by decide +kernel
theorem dX3_copyFrom_10 : decode cX3_copyFrom 10 = .ok (.getfield 9, 3) := by decide +kernel
theorem dX3_copyFrom_13 : decode cX3_copyFrom 13 = .ok (.putfield 9, 3) := by decide +kernel
theorem dX3_copyFrom_16 : decode cX3_copyFrom 16 = .ok (.aload_n 0, 1) := by decide +kernel
theorem dX3_copyFrom_17 : decode cX3_copyFrom 17 = .ok (.aload_n 1, 1) := by decide +kernel
theorem dX3_copyFrom_18 : decode cX3_copyFrom 18 = .ok (.getfield 35, 3) := by decide +kernel
theorem dX3_copyFrom_21 : decode cX3_copyFrom 21 = .ok (.putfield 35, 3) := by decide +kernel
theorem dX3_copyFrom_24 : decode cX3_copyFrom 24 = .ok (.aload_n 0, 1) := by decide +kernel
theorem dX3_copyFrom_25 : decode cX3_copyFrom 25 = .ok (.aload_n 1, 1) := by decide +kernel
theorem dX3_copyFrom_26 : decode cX3_copyFrom 26 = .ok (.getfield 38, 3) := by decide +kernel
theorem dX3_copyFrom_29 : decode cX3_copyFrom 29 = .ok (.putfield 38, 3) := by decide +kernel
theorem dX3_copyFrom_32 : decode cX3_copyFrom 32 = .ok (.aload_n 0, 1) := by decide +kernel
theorem dX3_copyFrom_33 : decode cX3_copyFrom 33 = .ok (.aload_n 1, 1) := by decide +kernel
theorem dX3_copyFrom_34 : decode cX3_copyFrom 34 = .ok (.getfield 41, 3) := by decide +kernel
theorem dX3_copyFrom_37 : decode cX3_copyFrom 37 = .ok (.putfield 41, 3) := by decide +kernel
theorem dX3_copyFrom_40 : decode cX3_copyFrom 40 = .ok (.aload_n 0, 1) := by decide +kernel
theorem dX3_copyFrom_41 : decode cX3_copyFrom 41 = .ok (.aload_n 1, 1) := by decide +kernel
theorem dX3_copyFrom_42 : decode cX3_copyFrom 42 = .ok (.getfield 15, 3) := by decide +kernel
theorem dX3_copyFrom_45 : decode cX3_copyFrom 45 = .ok (.putfield 15, 3) := by decide +kernel
theorem dX3_copyFrom_48 : decode cX3_copyFrom 48 = .ok (.aload_n 1, 1) := by decide +kernel
theorem dX3_copyFrom_49 : decode cX3_copyFrom 49 = .ok (.getfield 18, 3) := by decide +kernel
theorem dX3_copyFrom_52 : decode cX3_copyFrom 52 = .ok (.iconst 0, 1) := by decide +kernel
theorem dX3_copyFrom_53 : decode cX3_copyFrom 53 = .ok (.aload_n 0, 1) := by decide +kernel
theorem dX3_copyFrom_54 : decode cX3_copyFrom 54 = .ok (.getfield 18, 3) := by decide +kernel
theorem dX3_copyFrom_57 : decode cX3_copyFrom 57 = .ok (.iconst 0, 1) := by decide +kernel
theorem dX3_copyFrom_58 : decode cX3_copyFrom 58 = .ok (.bipush 20, 2) := by decide +kernel
theorem dX3_copyFrom_60 : decode cX3_copyFrom 60 = .ok (.invokestatic 44, 3) := by decide +kernel
theorem dX3_copyFrom_63 : decode cX3_copyFrom 63 = .ok (.aload_n 1, 1) := by decide +kernel
theorem dX3_copyFrom_64 : decode cX3_copyFrom 64 = .ok (.getfield 22, 3) := by decide +kernel
theorem dX3_copyFrom_67 : decode cX3_copyFrom 67 = .ok (.iconst 0, 1) := by decide +kernel
theorem dX3_copyFrom_68 : decode cX3_copyFrom 68 = .ok (.aload_n 0, 1) := by decide +kernel
theorem dX3_copyFrom_69 : decode cX3_copyFrom 69 = .ok (.getfield 22, 3) := by decide +kernel
theorem dX3_copyFrom_72 : decode cX3_copyFrom 72 = .ok (.iconst 0, 1) := by decide +kernel
theorem dX3_copyFrom_73 : decode cX3_copyFrom 73 = .ok (.bipush 20, 2) := by decide +kernel
theorem dX3_copyFrom_75 : decode cX3_copyFrom 75 = .ok (.invokestatic 44, 3) := by decide +kernel
theorem dX3_copyFrom_78 : decode cX3_copyFrom 78 = .ok (.aload_n 1, 1) := by decide +kernel
theorem dX3_copyFrom_79 : decode cX3_copyFrom 79 = .ok (.getfield 25, 3) := by decide +kernel
theorem dX3_copyFrom_82 : decode cX3_copyFrom 82 = .ok (.iconst 0, 1) := by decide +kernel
theorem dX3_copyFrom_83 : decode cX3_copyFrom 83 = .ok (.aload_n 0, 1) := by decide +kernel
theorem dX3_copyFrom_84 : decode cX3_copyFrom 84 = .ok (.getfield 25, 3) := by decide +kernel
theorem dX3_copyFrom_87 : decode cX3_copyFrom 87 = .ok (.iconst 0, 1) := by decide +kernel
theorem dX3_copyFrom_88 : decode cX3_copyFrom 88 = .ok (.iconst 4, 1) := by decide +kernel
theorem dX3_copyFrom_89 : decode cX3_copyFrom 89 = .ok (.invokestatic 44, 3) := by decide +kernel
theorem dX3_copyFrom_92 : decode cX3_copyFrom 92 = .ok (.aload_n 0, 1) := by decide +kernel
theorem dX3_copyFrom_93 : decode cX3_copyFrom 93 = .ok (.aload_n 1, 1) := by decide +kernel
theorem dX3_copyFrom_94 : decode cX3_copyFrom 94 = .ok (.getfield 50, 3) := by decide +kernel
theorem dX3_copyFrom_97 : decode cX3_copyFrom 97 = .ok (.putfield 50, 3) := by decide +kernel
theorem dX3_copyFrom_100 : decode cX3_copyFrom 100 = .ok (.aload_n 0, 1) := by decide +kernel
theorem dX3_copyFrom_101 : decode cX3_copyFrom 101 = .ok (.aload_n 1, 1) := by decide +kernel
theorem dX3_copyFrom_102 : decode cX3_copyFrom 102 = .ok (.getfield 28, 3) := by decide +kernel
theorem dX3_copyFrom_105 : decode cX3_copyFrom 105 = .ok (.putfield 28, 3) := by decide +kernel
theorem dX3_copyFrom_108 : decode cX3_copyFrom 108 = .ok (.aload_n 0, 1) := by decide +kernel
theorem dX3_copyFrom_109 : decode cX3_copyFrom 109 = .ok (.aload_n 1, 1) := by decide +kernel
theorem dX3_copyFrom_110 : decode cX3_copyFrom 110 = .ok (.getfield 53, 3) := by decide +kernel
theorem dX3_copyFrom_113 : decode cX3_copyFrom 113 = .ok (.putfield 53, 3) := by decide +kernel
theorem dX3_copyFrom_116 : decode cX3_copyFrom 116 = .ok (.return_, 1) := by decide +kernel
theorem dX3_beatOver_0 : decode cX3_beatOver 0 = .ok (.aload_n 0, 1) := by decide +kernel
theorem dX3_beatOver_1 : decode cX3_beatOver 1 = .ok (.getfield 31, 3) := by decide +kernel
theorem dX3_beatOver_4 : decode cX3_beatOver 4 = .ok (.aload_n 0, 1) := by decide +kernel
theorem dX3_beatOver_5 : decode cX3_beatOver 5 = .ok (.getfield 41, 3) := by decide +kernel
theorem dX3_beatOver_8 : decode cX3_beatOver 8 = .ok (.lsub, 1) := by decide +kernel
theorem dX3_beatOver_9 : decode cX3_beatOver 9 = .ok (.lreturn, 1) := by decide +kernel
theorem dX3_levelsTogether_0 : decode cX3_levelsTogether 0 = .ok (.iconst 0, 1) := by decide +kernel
theorem dX3_levelsTogether_1 : decode cX3_levelsTogether 1 = .ok (.istore_n 1, 1) := by decide +kernel
theorem dX3_levelsTogether_2 : decode cX3_levelsTogether 2 = .ok (.iconst 0, 1) := by decide +kernel
theorem dX3_levelsTogether_3 : decode cX3_levelsTogether 3 = .ok (.istore_n 2, 1) := by decide +kernel
theorem dX3_levelsTogether_4 : decode cX3_levelsTogether 4 = .ok (.iload_n 2, 1) := by decide +kernel
theorem dX3_levelsTogether_5 : decode cX3_levelsTogether 5 = .ok (.bipush 20, 2) := by decide +kernel
theorem dX3_levelsTogether_7 : decode cX3_levelsTogether 7 = .ok (.if_icmp .ge 18, 3) := by decide +kernel
theorem dX3_levelsTogether_10 : decode cX3_levelsTogether 10 = .ok (.iload_n 1, 1) := by decide +kernel
theorem dX3_levelsTogether_11 : decode cX3_levelsTogether 11 = .ok (.aload_n 0, 1) := by decide +kernel
theorem dX3_levelsTogether_12 : decode cX3_levelsTogether 12 = .ok (.getfield 22, 3) := by decide +kernel
theorem dX3_levelsTogether_15 : decode cX3_levelsTogether 15 = .ok (.iload_n 2, 1) := by decide +kernel
theorem dX3_levelsTogether_16 : decode cX3_levelsTogether 16 = .ok (.iaload, 1) := by decide +kernel
theorem dX3_levelsTogether_17 : decode cX3_levelsTogether 17 = .ok (.iadd, 1) := by decide +kernel
theorem dX3_levelsTogether_18 : decode cX3_levelsTogether 18 = .ok (.istore_n 1, 1) := by decide +kernel
theorem dX3_levelsTogether_19 : decode cX3_levelsTogether 19 = .ok (.iinc 2 1, 3) := by decide +kernel
theorem dX3_levelsTogether_22 : decode cX3_levelsTogether 22 = .ok (.goto (-18), 3) := by decide +kernel
theorem dX3_levelsTogether_25 : decode cX3_levelsTogether 25 = .ok (.iload_n 1, 1) := by decide +kernel
theorem dX3_levelsTogether_26 : decode cX3_levelsTogether 26 = .ok (.ireturn, 1) := by decide +kernel
theorem dX3_moveLevel_0 : decode cX3_moveLevel 0 = .ok (.iconst 0, 1) := by decide +kernel
theorem dX3_moveLevel_1 : decode cX3_moveLevel 1 = .ok (.istore_n 3, 1) := by decide +kernel
theorem dX3_moveLevel_2 : decode cX3_moveLevel 2 = .ok (.aload_n 0, 1) := by decide +kernel
theorem dX3_moveLevel_3 : decode cX3_moveLevel 3 = .ok (.getfield 18, 3) := by decide +kernel
theorem dX3_moveLevel_6 : decode cX3_moveLevel 6 = .ok (.iload_n 1, 1) := by decide +kernel
theorem dX3_moveLevel_7 : decode cX3_moveLevel 7 = .ok (.iaload, 1) := by decide +kernel
theorem dX3_moveLevel_8 : decode cX3_moveLevel 8 = .ok (.ifCond .ne 21, 3) := by decide +kernel
theorem dX3_moveLevel_11 : decode cX3_moveLevel 11 = .ok (.aload_n 0, 1) := by decide +kernel
theorem dX3_moveLevel_12 : decode cX3_moveLevel 12 = .ok (.getfield 22, 3) := by decide +kernel
theorem dX3_moveLevel_15 : decode cX3_moveLevel 15 = .ok (.iload_n 1, 1) := by decide +kernel
theorem dX3_moveLevel_16 : decode cX3_moveLevel 16 = .ok (.iaload, 1) := by decide +kernel
theorem dX3_moveLevel_17 : decode cX3_moveLevel 17 = .ok (.ifCond .le 7, 3) := by decide +kernel
theorem dX3_moveLevel_20 : decode cX3_moveLevel 20 = .ok (.iconst (-1), 1) := by decide +kernel
theorem dX3_moveLevel_21 : decode cX3_moveLevel 21 = .ok (.goto 4, 3) := by decide +kernel
theorem dX3_moveLevel_24 : decode cX3_moveLevel 24 = .ok (.iconst 0, 1) := by decide +kernel
theorem dX3_moveLevel_25 : decode cX3_moveLevel 25 = .ok (.istore_n 3, 1) := by decide +kernel
theorem dX3_moveLevel_26 : decode cX3_moveLevel 26 = .ok (.goto 26, 3) := by decide +kernel
theorem dX3_moveLevel_29 : decode cX3_moveLevel 29 = .ok (.aload_n 0, 1) := by decide +kernel
theorem dX3_moveLevel_30 : decode cX3_moveLevel 30 = .ok (.getfield 22, 3) := by decide +kernel
theorem dX3_moveLevel_33 : decode cX3_moveLevel 33 = .ok (.iload_n 1, 1) := by decide +kernel
theorem dX3_moveLevel_34 : decode cX3_moveLevel 34 = .ok (.iaload, 1) := by decide +kernel
theorem dX3_moveLevel_35 : decode cX3_moveLevel 35 = .ok (.aload_n 0, 1) := by decide +kernel
theorem dX3_moveLevel_36 : decode cX3_moveLevel 36 = .ok (.getfield 18, 3) := by decide +kernel
theorem dX3_moveLevel_39 : decode cX3_moveLevel 39 = .ok (.iload_n 1, 1) := by decide +kernel
theorem dX3_moveLevel_40 : decode cX3_moveLevel 40 = .ok (.iaload, 1) := by decide +kernel
theorem dX3_moveLevel_41 : decode cX3_moveLevel 41 = .ok (.if_icmp .ge 11, 3) := by decide +kernel
theorem dX3_moveLevel_44 : decode cX3_moveLevel 44 = .ok (.iload_n 2, 1) := by decide +kernel
theorem dX3_moveLevel_45 : decode cX3_moveLevel 45 = .ok (.bipush 16, 2) := by decide +kernel
theorem dX3_moveLevel_47 : decode cX3_moveLevel 47 = .ok (.if_icmp .ge 5, 3) := by decide +kernel
theorem dX3_moveLevel_50 : decode cX3_moveLevel 50 = .ok (.iconst 1, 1) := by decide +kernel
theorem dX3_moveLevel_51 : decode cX3_moveLevel 51 = .ok (.istore_n 3, 1) := by decide +kernel
theorem dX3_moveLevel_52 : decode cX3_moveLevel 52 = .ok (.aload_n 0, 1) := by decide +kernel
theorem dX3_moveLevel_53 : decode cX3_moveLevel 53 = .ok (.getfield 22, 3) := by decide +kernel
theorem dX3_moveLevel_56 : decode cX3_moveLevel 56 = .ok (.iload_n 1, 1) := by decide +kernel
theorem dX3_moveLevel_57 : decode cX3_moveLevel 57 = .ok (.dup2, 1) := by decide +kernel
theorem dX3_moveLevel_58 : decode cX3_moveLevel 58 = .ok (.iaload, 1) := by decide +kernel
theorem dX3_moveLevel_59 : decode cX3_moveLevel 59 = .ok (.iload_n 3, 1) := by decide +kernel
theorem dX3_moveLevel_60 : decode cX3_moveLevel 60 = .ok (.iadd, 1) := by decide +kernel
theorem dX3_moveLevel_61 : decode cX3_moveLevel 61 = .ok (.iastore, 1) := by decide +kernel
theorem dX3_moveLevel_62 : decode cX3_moveLevel 62 = .ok (.iload_n 3, 1) := by decide +kernel
theorem dX3_moveLevel_63 : decode cX3_moveLevel 63 = .ok (.ireturn, 1) := by decide +kernel
theorem dX3_shiftWaiting_0 : decode cX3_shiftWaiting 0 = .ok (.aload_n 0, 1) := by decide +kernel
theorem dX3_shiftWaiting_1 : decode cX3_shiftWaiting 1 = .ok (.dup, 1) := by decide +kernel
theorem dX3_shiftWaiting_2 : decode cX3_shiftWaiting 2 = .ok (.getfield 50, 3) := by decide +kernel
theorem dX3_shiftWaiting_5 : decode cX3_shiftWaiting 5 = .ok (.iconst 1, 1) := by decide +kernel
theorem dX3_shiftWaiting_6 : decode cX3_shiftWaiting 6 = .ok (.isub, 1) := by decide +kernel
theorem dX3_shiftWaiting_7 : decode cX3_shiftWaiting 7 = .ok (.putfield 50, 3) := by decide +kernel
theorem dX3_shiftWaiting_10 : decode cX3_shiftWaiting 10 = .ok (.iconst 0, 1) := by decide +kernel
theorem dX3_shiftWaiting_11 : decode cX3_shiftWaiting 11 = .ok (.istore_n 1, 1) := by decide +kernel
theorem dX3_shiftWaiting_12 : decode cX3_shiftWaiting 12 = .ok (.iload_n 1, 1) := by decide +kernel
theorem dX3_shiftWaiting_13 : decode cX3_shiftWaiting 13 = .ok (.aload_n 0, 1) := by decide +kernel
theorem dX3_shiftWaiting_14 : decode cX3_shiftWaiting 14 = .ok (.getfield 50, 3) := by decide +kernel
theorem dX3_shiftWaiting_17 : decode cX3_shiftWaiting 17 = .ok (.if_icmp .ge 23, 3) := by decide +kernel
theorem dX3_shiftWaiting_20 : decode cX3_shiftWaiting 20 = .ok (.aload_n 0, 1) := by decide +kernel
theorem dX3_shiftWaiting_21 : decode cX3_shiftWaiting 21 = .ok (.getfield 25, 3) := by decide +kernel
theorem dX3_shiftWaiting_24 : decode cX3_shiftWaiting 24 = .ok (.iload_n 1, 1) := by decide +kernel
theorem dX3_shiftWaiting_25 : decode cX3_shiftWaiting 25 = .ok (.aload_n 0, 1) := by decide +kernel
theorem dX3_shiftWaiting_26 : decode cX3_shiftWaiting 26 = .ok (.getfield 25, 3) := by decide +kernel
theorem dX3_shiftWaiting_29 : decode cX3_shiftWaiting 29 = .ok (.iload_n 1, 1) := by decide +kernel
theorem dX3_shiftWaiting_30 : decode cX3_shiftWaiting 30 = .ok (.iconst 1, 1) := by decide +kernel
theorem dX3_shiftWaiting_31 : decode cX3_shiftWaiting 31 = .ok (.iadd, 1) := by decide +kernel
theorem dX3_shiftWaiting_32 : decode cX3_shiftWaiting 32 = .ok (.iaload, 1) := by decide +kernel
theorem dX3_shiftWaiting_33 : decode cX3_shiftWaiting 33 = .ok (.iastore, 1) := by decide +kernel
theorem dX3_shiftWaiting_34 : decode cX3_shiftWaiting 34 = .ok (.iinc 1 1, 3) := by decide +kernel
theorem dX3_shiftWaiting_37 : decode cX3_shiftWaiting 37 = .ok (.goto (-25), 3) := by decide +kernel
theorem dX3_shiftWaiting_40 : decode cX3_shiftWaiting 40 = .ok (.return_, 1) := by decide +kernel
theorem dX4_init_0 : decode cX4_init 0 = .ok (.aload_n 0, 1) := by decide +kernel
theorem dX4_init_1 : decode cX4_init 1 = .ok (.invokespecial 3, 3) := by decide +kernel
theorem dX4_init_4 : decode cX4_init 4 = .ok (.aload_n 0, 1) := by decide +kernel
theorem dX4_init_5 : decode cX4_init 5 = .ok (.bipush 20, 2) := by decide +kernel
theorem dX4_init_7 : decode cX4_init 7 = .ok (.newarray .long, 2) := by decide +kernel
theorem dX4_init_9 : decode cX4_init 9 = .ok (.putfield 9, 3) := by decide +kernel
theorem dX4_init_12 : decode cX4_init 12 = .ok (.aload_n 0, 1) := by decide +kernel
theorem dX4_init_13 : decode cX4_init 13 = .ok (.bipush 20, 2) := by decide +kernel
theorem dX4_init_15 : decode cX4_init 15 = .ok (.newarray .int, 2) := by decide +kernel
theorem dX4_init_17 : decode cX4_init 17 = .ok (.putfield 15, 3) := by decide +kernel
theorem dX4_init_20 : decode cX4_init 20 = .ok (.return_, 1) := by decide +kernel
