theorem dX4_fill_0 : decode cX4_fill 0 = .ok (.iconst 0, 1) := by decide +kernel
theorem dX4_fill_1 : decode cX4_fill 1 = .ok (.istore 5, 2) := by decide +kernel
theorem dX4_fill_3 : decode cX4_fill 3 = .ok (.iload 5, 2) := by decide +kernel
theorem dX4_fill_5 : decode cX4_fill 5 = .ok (.aload_n 1, 1) := by decide +kernel
theorem dX4_fill_6 : decode cX4_fill 6 = .ok (.getfield 19, 3) := by decide +kernel
theorem dX4_fill_9 : decode cX4_fill 9 = .ok (.if_icmp .ge 41, 3) := by decide +kernel
theorem dX4_fill_12 : decode cX4_fill 12 = .ok (.aload_n 0, 1) := by decide +kernel
theorem dX4_fill_13 : decode cX4_fill 13 = .ok (.getfield 9, 3) := by decide +kernel
theorem dX4_fill_16 : decode cX4_fill 16 = .ok (.iload 5, 2) := by decide +kernel
theorem dX4_fill_18 : decode cX4_fill 18 = .ok (.aload_n 1, 1) := by decide +kernel
theorem dX4_fill_19 : decode cX4_fill 19 = .ok (.iload 5, 2) := by decide +kernel
theorem dX4_fill_21 : decode cX4_fill 21 = .ok (.iload_n 2, 1) := by decide +kernel
theorem dX4_fill_22 : decode cX4_fill 22 = .ok (.invokevirtual 25, 3) := by decide +kernel
theorem dX4_fill_25 : decode cX4_fill 25 = .ok (.ifCond .eq 7, 3) := by decide +kernel
theorem dX4_fill_28 : decode cX4_fill 28 = .ok (.lconst 0, 1) := by decide +kernel
theorem dX4_fill_29 : decode cX4_fill 29 = .ok (.goto 6, 3) := by decide +kernel
theorem dX4_fill_32 : decode cX4_fill 32 = .ok (.ldc2_w 29, 3) := by decide +kernel
theorem dX4_fill_35 : decode cX4_fill 35 = .ok (.lastore, 1) := by decide +kernel
theorem dX4_fill_36 : decode cX4_fill 36 = .ok (.aload_n 0, 1) := by decide +kernel
theorem dX4_fill_37 : decode cX4_fill 37 = .ok (.getfield 15, 3) := by decide +kernel
theorem dX4_fill_40 : decode cX4_fill 40 = .ok (.iload 5, 2) := by decide +kernel
theorem dX4_fill_42 : decode cX4_fill 42 = .ok (.iconst 0, 1) := by decide +kernel
theorem dX4_fill_43 : decode cX4_fill 43 = .ok (.iastore, 1) := by decide +kernel
theorem dX4_fill_44 : decode cX4_fill 44 = .ok (.iinc 5 1, 3) := by decide +kernel
theorem dX4_fill_47 : decode cX4_fill 47 = .ok (.goto (-44), 3) := by decide +kernel
theorem dX4_fill_50 : decode cX4_fill 50 = .ok (.iconst 1, 1) := by decide +kernel
theorem dX4_fill_51 : decode cX4_fill 51 = .ok (.istore 5, 2) := by decide +kernel
theorem dX4_fill_53 : decode cX4_fill 53 = .ok (.iconst 0, 1) := by decide +kernel
theorem dX4_fill_54 : decode cX4_fill 54 = .ok (.istore 6, 2) := by decide +kernel
theorem dX4_fill_56 : decode cX4_fill 56 = .ok (.iload 6, 2) := by decide +kernel
theorem dX4_fill_58 : decode cX4_fill 58 = .ok (.aload_n 1, 1) := by decide +kernel
theorem dX4_fill_59 : decode cX4_fill 59 = .ok (.getfield 19, 3) := by decide +kernel
theorem dX4_fill_62 : decode cX4_fill 62 = .ok (.if_icmp .ge 24, 3) := by decide +kernel
theorem dX4_fill_65 : decode cX4_fill 65 = .ok (.iload 5, 2) := by decide +kernel
theorem dX4_fill_67 : decode cX4_fill 67 = .ok (.ifCond .eq 19, 3) := by decide +kernel
theorem dX4_fill_70 : decode cX4_fill 70 = .ok (.aload_n 0, 1) := by decide +kernel
theorem dX4_fill_71 : decode cX4_fill 71 = .ok (.aload_n 1, 1) := by decide +kernel
theorem dX4_fill_72 : decode cX4_fill 72 = .ok (.iload_n 3, 1) := by decide +kernel
theorem dX4_fill_73 : decode cX4_fill 73 = .ok (.iload 4, 2) := by decide +kernel
theorem dX4_fill_75 : decode cX4_fill 75 = .ok (.invokevirtual 31, 3) := by decide +kernel
theorem dX4_fill_78 : decode cX4_fill 78 = .ok (.istore 5, 2) := by decide +kernel
theorem dX4_fill_80 : decode cX4_fill 80 = .ok (.iinc 6 1, 3) := by decide +kernel
theorem dX4_fill_83 : decode cX4_fill 83 = .ok (.goto (-27), 3) := by decide +kernel
theorem dX4_fill_86 : decode cX4_fill 86 = .ok (.return_, 1) := by decide +kernel
theorem dX4_improve_0 : decode cX4_improve 0 = .ok (.iconst 0, 1) := by decide +kernel
theorem dX4_improve_1 : decode cX4_improve 1 = .ok (.istore 4, 2) := by decide +kernel
theorem dX4_improve_3 : decode cX4_improve 3 = .ok (.iconst 0, 1) := by decide +kernel
theorem dX4_improve_4 : decode cX4_improve 4 = .ok (.istore 5, 2) := by decide +kernel
theorem dX4_improve_6 : decode cX4_improve 6 = .ok (.iload 5, 2) := by decide +kernel
theorem dX4_improve_8 : decode cX4_improve 8 = .ok (.aload_n 1, 1) := by decide +kernel
theorem dX4_improve_9 : decode cX4_improve 9 = .ok (.getfield 35, 3) := by decide +kernel
theorem dX4_improve_12 : decode cX4_improve 12 = .ok (.if_icmp .ge 130, 3) := by decide +kernel
theorem dX4_improve_15 : decode cX4_improve 15 = .ok (.aload_n 1, 1) := by decide +kernel
theorem dX4_improve_16 : decode cX4_improve 16 = .ok (.getfield 38, 3) := by decide +kernel
theorem dX4_improve_19 : decode cX4_improve 19 = .ok (.iload 5, 2) := by decide +kernel
theorem dX4_improve_21 : decode cX4_improve 21 = .ok (.iaload, 1) := by decide +kernel
theorem dX4_improve_22 : decode cX4_improve 22 = .ok (.istore 6, 2) := by decide +kernel
theorem dX4_improve_24 : decode cX4_improve 24 = .ok (.aload_n 1, 1) := by decide +kernel
theorem dX4_improve_25 : decode cX4_improve 25 = .ok (.getfield 41, 3) := by decide +kernel
theorem dX4_improve_28 : decode cX4_improve 28 = .ok (.iload 5, 2) := by decide +kernel
theorem dX4_improve_30 : decode cX4_improve 30 = .ok (.iaload, 1) := by decide +kernel
theorem dX4_improve_31 : decode cX4_improve 31 = .ok (.istore 7, 2) := by decide +kernel
theorem dX4_improve_33 : decode cX4_improve 33 = .ok (.aload_n 0, 1) := by decide +kernel
theorem dX4_improve_34 : decode cX4_improve 34 = .ok (.getfield 9, 3) := by decide +kernel
theorem dX4_improve_37 : decode cX4_improve 37 = .ok (.iload 7, 2) := by decide +kernel
theorem dX4_improve_39 : decode cX4_improve 39 = .ok (.laload, 1) := by decide +kernel
theorem dX4_improve_40 : decode cX4_improve 40 = .ok (.iload_n 2, 1) := by decide +kernel
theorem dX4_improve_41 : decode cX4_improve 41 = .ok (.aload_n 1, 1) := by decide +kernel
theorem dX4_improve_42 : decode cX4_improve 42 = .ok (.getfield 44, 3) := by decide +kernel
theorem dX4_improve_45 : decode cX4_improve 45 = .ok (.iload 5, 2) := by decide +kernel
theorem dX4_improve_47 : decode cX4_improve 47 = .ok (.iaload, 1) := by decide +kernel
theorem dX4_improve_48 : decode cX4_improve 48 = .ok (.imul, 1) := by decide +kernel
theorem dX4_improve_49 : decode cX4_improve 49 = .ok (.i2l, 1) := by decide +kernel
theorem dX4_improve_50 : decode cX4_improve 50 = .ok (.ladd, 1) := by decide +kernel
theorem dX4_improve_51 : decode cX4_improve 51 = .ok (.iload_n 3, 1) := by decide +kernel
theorem dX4_improve_52 : decode cX4_improve 52 = .ok (.i2l, 1) := by decide +kernel
theorem dX4_improve_53 : decode cX4_improve 53 = .ok (.aload_n 1, 1) := by decide +kernel
theorem dX4_improve_54 : decode cX4_improve 54 = .ok (.iload 5, 2) := by decide +kernel
theorem dX4_improve_56 : decode cX4_improve 56 = .ok (.invokevirtual 47, 3) := by decide +kernel
theorem dX4_improve_59 : decode cX4_improve 59 = .ok (.lmul, 1) := by decide +kernel
theorem dX4_improve_60 : decode cX4_improve 60 = .ok (.ladd, 1) := by decide +kernel
theorem dX4_improve_61 : decode cX4_improve 61 = .ok (.lstore 8, 2) := by decide +kernel
theorem dX4_improve_63 : decode cX4_improve 63 = .ok (.aload_n 0, 1) := by decide +kernel
theorem dX4_improve_64 : decode cX4_improve 64 = .ok (.getfield 9, 3) := by decide +kernel
theorem dX4_improve_67 : decode cX4_improve 67 = .ok (.iload 7, 2) := by decide +kernel
theorem dX4_improve_69 : decode cX4_improve 69 = .ok (.laload, 1) := by decide +kernel
theorem dX4_improve_70 : decode cX4_improve 70 = .ok (.ldc2_w 29, 3) := by decide +kernel
theorem dX4_improve_73 : decode cX4_improve 73 = .ok (.lcmp, 1) := by decide +kernel
theorem dX4_improve_74 : decode cX4_improve 74 = .ok (.ifCond .eq 62, 3) := by decide +kernel
theorem dX4_improve_77 : decode cX4_improve 77 = .ok (.lload 8, 2) := by decide +kernel
theorem dX4_improve_79 : decode cX4_improve 79 = .ok (.aload_n 0, 1) := by decide +kernel
theorem dX4_improve_80 : decode cX4_improve 80 = .ok (.getfield 15, 3) := by decide +kernel
theorem dX4_improve_83 : decode cX4_improve 83 = .ok (.iload 7, 2) := by decide +kernel
theorem dX4_improve_85 : decode cX4_improve 85 = .ok (.iaload, 1) := by decide +kernel
theorem dX4_improve_86 : decode cX4_improve 86 = .ok (.iconst 1, 1) := by decide +kernel
theorem dX4_improve_87 : decode cX4_improve 87 = .ok (.iadd, 1) := by decide +kernel
theorem dX4_improve_88 : decode cX4_improve 88 = .ok (.aload_n 0, 1) := by decide +kernel
theorem dX4_improve_89 : decode cX4_improve 89 = .ok (.getfield 9, 3) := by decide +kernel
theorem dX4_improve_92 : decode cX4_improve 92 = .ok (.iload 6, 2) := by decide +kernel
theorem dX4_improve_94 : decode cX4_improve 94 = .ok (.laload, 1) := by decide +kernel
theorem dX4_improve_95 : decode cX4_improve 95 = .ok (.aload_n 0, 1) := by decide +kernel
theorem dX4_improve_96 : decode cX4_improve 96 = .ok (.getfield 15, 3) := by decide +kernel
theorem dX4_improve_99 : decode cX4_improve 99 = .ok (.iload 6, 2) := by decide +kernel
theorem dX4_improve_101 : decode cX4_improve 101 = .ok (.iaload, 1) := by decide +kernel
theorem dX4_improve_102 : decode cX4_improve 102 = .ok (.invokestatic 51, 3) := by decide +kernel
theorem dX4_improve_105 : decode cX4_improve 105 = .ok (.ifCond .eq 31, 3) := by decide +kernel
theorem dX4_improve_108 : decode cX4_improve 108 = .ok (.aload_n 0, 1) := by decide +kernel
theorem dX4_improve_109 : decode cX4_improve 109 = .ok (.getfield 9, 3) := by decide +kernel
theorem dX4_improve_112 : decode cX4_improve 112 = .ok (.iload 6, 2) := by decide +kernel
theorem dX4_improve_114 : decode cX4_improve 114 = .ok (.lload 8, 2) := by decide +kernel
theorem dX4_improve_116 : decode cX4_improve 116 = .ok (.lastore, 1) := by decide +kernel
theorem dX4_improve_117 : decode cX4_improve 117 = .ok (.aload_n 0, 1) := by decide +kernel
theorem dX4_improve_118 : decode cX4_improve 118 = .ok (.getfield 15, 3) := by decide +kernel
theorem dX4_improve_121 : decode cX4_improve 121 = .ok (.iload 6, 2) := by decide +kernel
theorem dX4_improve_123 : decode cX4_improve 123 = .ok (.aload_n 0, 1) := by decide +kernel
theorem dX4_improve_124 : decode cX4_improve 124 = .ok (.getfield 15, 3) := by decide +kernel
theorem dX4_improve_127 : decode cX4_improve 127 = .ok (.iload 7, 2) := by decide +kernel
theorem dX4_improve_129 : decode cX4_improve 129 = .ok (.iaload, 1) := by decide +kernel
theorem dX4_improve_130 : decode cX4_improve 130 = .ok (.iconst 1, 1) := by decide +kernel
theorem dX4_improve_131 : decode cX4_improve 131 = .ok (.iadd, 1) := by decide +kernel
theorem dX4_improve_132 : decode cX4_improve 132 = .ok (.iastore, 1) := by decide +kernel
theorem dX4_improve_133 : decode cX4_improve 133 = .ok (.iconst 1, 1) := by decide +kernel
theorem dX4_improve_134 : decode cX4_improve 134 = .ok (.istore 4, 2) := by decide +kernel
theorem dX4_improve_136 : decode cX4_improve 136 = .ok (.iinc 5 1, 3) := by decide +kernel
theorem dX4_improve_139 : decode cX4_improve 139 = .ok (.goto (-133), 3) := by decide +kernel
theorem dX4_improve_142 : decode cX4_improve 142 = .ok (.iload 4, 2) := by decide +kernel
theorem dX4_improve_144 : decode cX4_improve 144 = .ok (.ireturn, 1) := by decide +kernel
theorem dX4_isBetter_0 : decode cX4_isBetter 0 = .ok (.lload_n 3, 1) := by decide +kernel
theorem dX4_isBetter_1 : decode cX4_isBetter 1 = .ok (.ldc2_w 29, 3) := by decide +kernel
theorem dX4_isBetter_4 : decode cX4_isBetter 4 = .ok (.lcmp, 1) := by decide +kernel
theorem dX4_isBetter_5 : decode cX4_isBetter 5 = .ok (.ifCond .eq 21, 3) := by decide +kernel
theorem dX4_isBetter_8 : decode cX4_isBetter 8 = .ok (.lload_n 0, 1) := by decide +kernel
theorem dX4_isBetter_9 : decode cX4_isBetter 9 = .ok (.lload_n 3, 1) := by decide +kernel
theorem dX4_isBetter_10 : decode cX4_isBetter 10 = .ok (.lcmp, 1) := by decide +kernel
theorem dX4_isBetter_11 : decode cX4_isBetter 11 = .ok (.ifCond .lt 15, 3) := by decide +kernel
theorem dX4_isBetter_14 : decode cX4_isBetter 14 = .ok (.lload_n 0, 1) := by decide +kernel
theorem dX4_isBetter_15 : decode cX4_isBetter 15 = .ok (.lload_n 3, 1) := by decide +kernel
theorem dX4_isBetter_16 : decode cX4_isBetter 16 = .ok (.lcmp, 1) := by decide +kernel
theorem dX4_isBetter_17 : decode cX4_isBetter 17 = .ok (.ifCond .ne 13, 3) := by decide +kernel
theorem dX4_isBetter_20 : decode cX4_isBetter 20 = .ok (.iload_n 2, 1) := by decide +kernel
theorem dX4_isBetter_21 : decode cX4_isBetter 21 = .ok (.iload 5, 2) := by decide +kernel
theorem dX4_isBetter_23 : decode cX4_isBetter 23 = .ok (.if_icmp .ge 7, 3) := by decide +kernel
theorem dX4_isBetter_26 : decode cX4_isBetter 26 = .ok (.iconst 1, 1) := by decide +kernel
theorem dX4_isBetter_27 : decode cX4_isBetter 27 = .ok (.goto 4, 3) := by decide +kernel
theorem dX4_isBetter_30 : decode cX4_isBetter 30 = .ok (.iconst 0, 1) := by decide +kernel
theorem dX4_isBetter_31 : decode cX4_isBetter 31 = .ok (.ireturn, 1) := by decide +kernel
theorem dX5_init_0 : decode cX5_init 0 = .ok (.aload_n 0, 1) := by decide +kernel
theorem dX5_init_1 : decode cX5_init 1 = .ok (.invokespecial 3, 3) := by decide +kernel
theorem dX5_init_4 : decode cX5_init 4 = .ok (.aload_n 0, 1) := by decide +kernel
theorem dX5_init_5 : decode cX5_init 5 = .ok (.new 9, 3) := by decide +kernel
theorem dX5_init_8 : decode cX5_init 8 = .ok (.dup, 1) := by decide +kernel
theorem dX5_init_9 : decode cX5_init 9 = .ok (.invokespecial 11, 3) := by decide +kernel
theorem dX5_init_12 : decode cX5_init 12 = .ok (.putfield 12, 3) := by decide +kernel
theorem dX5_init_15 : decode cX5_init 15 = .ok (.aload_n 0, 1) := by decide +kernel
theorem dX5_init_16 : decode cX5_init 16 = .ok (.new 16, 3) := by decide +kernel
theorem dX5_init_19 : decode cX5_init 19 = .ok (.dup, 1) := by decide +kernel
theorem dX5_init_20 : decode cX5_init 20 = .ok (.invokespecial 18, 3) := by decide +kernel
theorem dX5_init_23 : decode cX5_init 23 = .ok (.putfield 19, 3) := by decide +kernel
theorem dX5_init_26 : decode cX5_init 26 = .ok (.aload_n 0, 1) := by decide +kernel
theorem dX5_init_27 : decode cX5_init 27 = .ok (.iconst 4, 1) := by decide +kernel
theorem dX5_init_28 : decode cX5_init 28 = .ok (.anewarray 16, 3) := by decide +kernel
theorem dX5_init_31 : decode cX5_init 31 = .ok (.putfield 23, 3) := by decide +kernel
theorem dX5_init_34 : decode cX5_init 34 = .ok (.aload_n 0, 1) := by decide +kernel
theorem dX5_init_35 : decode cX5_init 35 = .ok (.new 27, 3) := by decide +kernel
theorem dX5_init_38 : decode cX5_init 38 = .ok (.dup, 1) := by decide +kernel
theorem dX5_init_39 : decode cX5_init 39 = .ok (.aload_n 0, 1) := by decide +kernel
theorem dX5_init_40 : decode cX5_init 40 = .ok (.getfield 19, 3) := by decide +kernel
theorem dX5_init_43 : decode cX5_init 43 = .ok (.invokespecial 29, 3) := by decide +kernel
theorem dX5_init_46 : decode cX5_init 46 = .ok (.putfield 32, 3) := by decide +kernel
theorem dX5_init_49 : decode cX5_init 49 = .ok (.aload_n 0, 1) := by decide +kernel
theorem dX5_init_50 : decode cX5_init 50 = .ok (.new 36, 3) := by decide +kernel
theorem dX5_init_53 : decode cX5_init 53 = .ok (.dup, 1) := by decide +kernel
theorem dX5_init_54 : decode cX5_init 54 = .ok (.invokespecial 38, 3) := by decide +kernel
theorem dX5_init_57 : decode cX5_init 57 = .ok (.putfield 39, 3) := by decide +kernel
theorem dX5_init_60 : decode cX5_init 60 = .ok (.aload_n 0, 1) := by decide +kernel
theorem dX5_init_61 : decode cX5_init 61 = .ok (.new 43, 3) := by decide +kernel
theorem dX5_init_64 : decode cX5_init 64 = .ok (.dup, 1) := by decide +kernel
theorem dX5_init_65 : decode cX5_init 65 = .ok (.aload_n 0, 1) := by decide +kernel
theorem dX5_init_66 : decode cX5_init 66 = .ok (.getfield 12, 3) := by decide +kernel
theorem dX5_init_69 : decode cX5_init 69 = .ok (.aload_n 0, 1) := by decide +kernel
theorem dX5_init_70 : decode cX5_init 70 = .ok (.getfield 19, 3) := by decide +kernel
theorem dX5_init_73 : decode cX5_init 73 = .ok (.invokespecial 45, 3) := by decide +kernel
theorem dX5_init_76 : decode cX5_init 76 = .ok (.putfield 48, 3) := by decide +kernel
theorem dX5_init_79 : decode cX5_init 79 = .ok (.iconst 0, 1) := by decide +kernel
theorem dX5_init_80 : decode cX5_init 80 = .ok (.istore_n 1, 1) := by decide +kernel
theorem dX5_init_81 : decode cX5_init 81 = .ok (.iload_n 1, 1) := by decide +kernel
theorem dX5_init_82 : decode cX5_init 82 = .ok (.iconst 4, 1) := by decide +kernel
theorem dX5_init_83 : decode cX5_init 83 = .ok (.if_icmp .ge 22, 3) := by decide +kernel
theorem dX5_init_86 : decode cX5_init 86 = .ok (.aload_n 0, 1) := by decide +kernel
theorem dX5_init_87 : decode cX5_init 87 = .ok (.getfield 23, 3) := by decide +kernel
theorem dX5_init_90 : decode cX5_init 90 = .ok (.iload_n 1, 1) := by decide +kernel
theorem dX5_init_91 : decode cX5_init 91 = .ok (.new 16, 3) := by decide +kernel
theorem dX5_init_94 : decode cX5_init 94 = .ok (.dup, 1) := by decide +kernel
theorem dX5_init_95 : decode cX5_init 95 = .ok (.invokespecial 18, 3) := by decide +kernel
theorem dX5_init_98 : decode cX5_init 98 = .ok (.aastore, 1) := by decide +kernel
theorem dX5_init_99 : decode cX5_init 99 = .ok (.iinc 1 1, 3) := by decide +kernel
theorem dX5_init_102 : decode cX5_init 102 = .ok (.goto (-21), 3) := by decide +kernel
theorem dX5_init_105 : decode cX5_init 105 = .ok (.return_, 1) := by decide +kernel
theorem dX5_piece_0 : decode cX5_piece 0 = .ok (.aload_n 0, 1) := by decide +kernel
theorem dX5_piece_1 : decode cX5_piece 1 = .ok (.getfield 12, 3) := by decide +kernel
theorem dX5_piece_4 : decode cX5_piece 4 = .ok (.iload_n 1, 1) := by decide +kernel
theorem dX5_piece_5 : decode cX5_piece 5 = .ok (.iload_n 2, 1) := by decide +kernel
theorem dX5_piece_6 : decode cX5_piece 6 = .ok (.iload_n 3, 1) := by decide +kernel
theorem dX5_piece_7 : decode cX5_piece 7 = .ok (.iload 4, 2) := by decide +kernel
theorem dX5_piece_9 : decode cX5_piece 9 = .ok (.iload 5, 2) := by decide +kernel
theorem dX5_piece_11 : decode cX5_piece 11 = .ok (.invokevirtual 52, 3) := by decide +kernel
theorem dX5_piece_14 : decode cX5_piece 14 = .ok (.istore 6, 2) := by decide +kernel
theorem dX5_piece_16 : decode cX5_piece 16 = .ok (.iload 6, 2) := by decide +kernel
theorem dX5_piece_18 : decode cX5_piece 18 = .ok (.iconst (-1), 1) := by decide +kernel
theorem dX5_piece_19 : decode cX5_piece 19 = .ok (.if_icmp .eq 10, 3) := by decide +kernel
theorem dX5_piece_22 : decode cX5_piece 22 = .ok (.aload_n 0, 1) := by decide +kernel
theorem dX5_piece_23 : decode cX5_piece 23 = .ok (.getfield 48, 3) := by decide +kernel
theorem dX5_piece_26 : decode cX5_piece 26 = .ok (.invokevirtual 56, 3) := by decide +kernel
theorem dX5_piece_29 : decode cX5_piece 29 = .ok (.iload 6, 2) := by decide +kernel
theorem dX5_piece_31 : decode cX5_piece 31 = .ok (.ireturn, 1) := by decide +kernel
theorem dX5_joint_0 : decode cX5_joint 0 = .ok (.aload_n 0, 1) := by decide +kernel
theorem dX5_joint_1 : decode cX5_joint 1 = .ok (.iload_n 1, 1) := by decide +kernel
theorem dX5_joint_2 : decode cX5_joint 2 = .ok (.invokevirtual 59, 3) := by decide +kernel
theorem dX5_joint_5 : decode cX5_joint 5 = .ok (.aload_n 0, 1) := by decide +kernel
theorem dX5_joint_6 : decode cX5_joint 6 = .ok (.iload_n 3, 1) := by decide +kernel
theorem dX5_joint_7 : decode cX5_joint 7 = .ok (.invokevirtual 59, 3) := by decide +kernel
theorem dX5_joint_10 : decode cX5_joint 10 = .ok (.aload_n 0, 1) := by decide +kernel
theorem dX5_joint_11 : decode cX5_joint 11 = .ok (.getfield 12, 3) := by decide +kernel
theorem dX5_joint_14 : decode cX5_joint 14 = .ok (.iload_n 1, 1) := by decide +kernel
theorem dX5_joint_15 : decode cX5_joint 15 = .ok (.iload_n 2, 1) := by decide +kernel
theorem dX5_joint_16 : decode cX5_joint 16 = .ok (.iload_n 3, 1) := by decide +kernel
theorem dX5_joint_17 : decode cX5_joint 17 = .ok (.iload 4, 2) := by decide +kernel
theorem dX5_joint_19 : decode cX5_joint 19 = .ok (.invokevirtual 63, 3) := by decide +kernel
theorem dX5_joint_22 : decode cX5_joint 22 = .ok (.istore 5, 2) := by decide +kernel
theorem dX5_joint_24 : decode cX5_joint 24 = .ok (.iload 5, 2) := by decide +kernel
theorem dX5_joint_26 : decode cX5_joint 26 = .ok (.iconst (-1), 1) := by decide +kernel
theorem dX5_joint_27 : decode cX5_joint 27 = .ok (.if_icmp .eq 10, 3) := by decide +kernel
theorem dX5_joint_30 : decode cX5_joint 30 = .ok (.aload_n 0, 1) := by decide +kernel
theorem dX5_joint_31 : decode cX5_joint 31 = .ok (.getfield 48, 3) := by decide +kernel
theorem dX5_joint_34 : decode cX5_joint 34 = .ok (.invokevirtual 56, 3) := by decide +kernel
theorem dX5_joint_37 : decode cX5_joint 37 = .ok (.iload 5, 2) := by decide +kernel
theorem dX5_joint_39 : decode cX5_joint 39 = .ok (.ireturn, 1) := by decide +kernel
theorem dX5_price_0 : decode cX5_price 0 = .ok (.iload_n 1, 1) := by decide +kernel
theorem dX5_price_1 : decode cX5_price 1 = .ok (.ifCond .lt 18, 3) := by decide +kernel
theorem dX5_price_4 : decode cX5_price 4 = .ok (.iload_n 1, 1) := by decide +kernel
theorem dX5_price_5 : decode cX5_price 5 = .ok (.iconst 2, 1) := by decide +kernel
theorem dX5_price_6 : decode cX5_price 6 = .ok (.if_icmp .ge 13, 3) := by decide +kernel
theorem dX5_price_9 : decode cX5_price 9 = .ok (.iload_n 2, 1) := by decide +kernel
theorem dX5_price_10 : decode cX5_price 10 = .ok (.ifCond .lt 9, 3) := by decide +kernel
theorem dX5_price_13 : decode cX5_price 13 = .ok (.iload_n 2, 1) := by decide +kernel
theorem dX5_price_14 : decode cX5_price 14 = .ok (.bipush 99, 2) := by decide +kernel
theorem dX5_price_16 : decode cX5_price 16 = .ok (.if_icmp .le 13, 3) := by decide +kernel
theorem dX5_price_19 : decode cX5_price 19 = .ok (.new 67, 3) := by decide +kernel
theorem dX5_price_22 : decode cX5_price 22 = .ok (.dup, 1) := by decide +kernel
theorem dX5_price_23 : decode cX5_price 23 = .ok (.ldc 69, 2) := by decide +kernel
theorem dX5_price_25 : decode cX5_price 25 = .ok (.invokespecial 71, 3) := by decide +kernel
theorem dX5_price_28 : decode cX5_price 28 = .ok (.athrow, 1) := by decide +kernel
theorem dX5_price_29 : decode cX5_price 29 = .ok (.aload_n 0, 1) := by decide +kernel
theorem dX5_price_30 : decode cX5_price 30 = .ok (.getfield 12, 3) := by decide +kernel
theorem dX5_price_33 : decode cX5_price 33 = .ok (.getfield 74, 3) := by decide +kernel
theorem dX5_price_36 : decode cX5_price 36 = .ok (.iload_n 1, 1) := by decide +kernel
theorem dX5_price_37 : decode cX5_price 37 = .ok (.iaload, 1) := by decide +kernel
theorem dX5_price_38 : decode cX5_price 38 = .ok (.istore_n 3, 1) := by decide +kernel
theorem dX5_price_39 : decode cX5_price 39 = .ok (.aload_n 0, 1) := by decide +kernel
theorem dX5_price_40 : decode cX5_price 40 = .ok (.getfield 12, 3) := by decide +kernel
theorem dX5_price_43 : decode cX5_price 43 = .ok (.getfield 74, 3) := by decide +kernel
theorem dX5_price_46 : decode cX5_price 46 = .ok (.iload_n 1, 1) := by decide +kernel
theorem dX5_price_47 : decode cX5_price 47 = .ok (.iload_n 2, 1) := by decide +kernel
theorem dX5_price_48 : decode cX5_price 48 = .ok (.iastore, 1) := by decide +kernel
theorem dX5_price_49 : decode cX5_price 49 = .ok (.aload_n 0, 1) := by decide +kernel
theorem dX5_price_50 : decode cX5_price 50 = .ok (.getfield 48, 3) := by decide +kernel
theorem dX5_price_53 : decode cX5_price 53 = .ok (.invokevirtual 56, 3) := by decide +kernel
theorem dX5_price_56 : decode cX5_price 56 = .ok (.iload_n 3, 1) := by decide +kernel
theorem dX5_price_57 : decode cX5_price 57 = .ok (.ireturn, 1) := by decide +kernel
theorem dX5_play_0 : decode cX5_play 0 = .ok (.aload_n 0, 1) := by decide +kernel
theorem dX5_play_1 : decode cX5_play 1 = .ok (.iload_n 1, 1) := by decide +kernel
theorem dX5_play_2 : decode cX5_play 2 = .ok (.invokevirtual 59, 3) := by decide +kernel
theorem dX5_play_5 : decode cX5_play 5 = .ok (.aload_n 0, 1) := by decide +kernel
theorem dX5_play_6 : decode cX5_play 6 = .ok (.getfield 12, 3) := by decide +kernel
theorem dX5_play_9 : decode cX5_play 9 = .ok (.iload_n 1, 1) := by decide +kernel
theorem dX5_play_10 : decode cX5_play 10 = .ok (.invokevirtual 78, 3) := by decide +kernel
theorem dX5_play_13 : decode cX5_play 13 = .ok (.ifCond .ne 5, 3) := by decide +kernel
theorem dX5_play_16 : decode cX5_play 16 = .ok (.iconst 0, 1) := by decide +kernel
theorem dX5_play_17 : decode cX5_play 17 = .ok (.ireturn, 1) := by decide +kernel
theorem dX5_play_18 : decode cX5_play 18 = .ok (.aload_n 0, 1) := by decide +kernel
theorem dX5_play_19 : decode cX5_play 19 = .ok (.getfield 32, 3) := by decide +kernel
theorem dX5_play_22 : decode cX5_play 22 = .ok (.iconst 0, 1) := by decide +kernel
theorem dX5_play_23 : decode cX5_play 23 = .ok (.iload_n 1, 1) := by decide +kernel
theorem dX5_play_24 : decode cX5_play 24 = .ok (.invokevirtual 82, 3) := by decide +kernel
theorem dX5_play_27 : decode cX5_play 27 = .ok (.aload_n 0, 1) := by decide +kernel
theorem dX5_play_28 : decode cX5_play 28 = .ok (.iload_n 1, 1) := by decide +kernel
theorem dX5_play_29 : decode cX5_play 29 = .ok (.iconst 1, 1) := by decide +kernel
theorem dX5_play_30 : decode cX5_play 30 = .ok (.invokevirtual 86, 3) := by decide +kernel
theorem dX5_play_33 : decode cX5_play 33 = .ok (.aload_n 0, 1) := by decide +kernel
theorem dX5_play_34 : decode cX5_play 34 = .ok (.getfield 48, 3) := by decide +kernel
theorem dX5_play_37 : decode cX5_play 37 = .ok (.invokevirtual 89, 3) := by decide +kernel
theorem dX5_play_40 : decode cX5_play 40 = .ok (.iconst 1, 1) := by decide +kernel
theorem dX5_play_41 : decode cX5_play 41 = .ok (.ireturn, 1) := by decide +kernel
theorem dX5_ask_0 : decode cX5_ask 0 = .ok (.aload_n 0, 1) := by decide +kernel
theorem dX5_ask_1 : decode cX5_ask 1 = .ok (.iload_n 1, 1) := by decide +kernel
theorem dX5_ask_2 : decode cX5_ask 2 = .ok (.invokevirtual 92, 3) := by decide +kernel
theorem dX5_ask_5 : decode cX5_ask 5 = .ok (.aload_n 0, 1) := by decide +kernel
theorem dX5_ask_6 : decode cX5_ask 6 = .ok (.getfield 19, 3) := by decide +kernel
theorem dX5_ask_9 : decode cX5_ask 9 = .ok (.iload_n 1, 1) := by decide +kernel
theorem dX5_ask_10 : decode cX5_ask 10 = .ok (.putfield 95, 3) := by decide +kernel
theorem dX5_ask_13 : decode cX5_ask 13 = .ok (.aload_n 0, 1) := by decide +kernel
theorem dX5_ask_14 : decode cX5_ask 14 = .ok (.invokevirtual 99, 3) := by decide +kernel
theorem dX5_ask_17 : decode cX5_ask 17 = .ok (.ifCond .eq 5, 3) := by decide +kernel
theorem dX5_ask_20 : decode cX5_ask 20 = .ok (.iconst 0, 1) := by decide +kernel
theorem dX5_ask_21 : decode cX5_ask 21 = .ok (.ireturn, 1) := by decide +kernel
theorem dX5_ask_22 : decode cX5_ask 22 = .ok (.aload_n 0, 1) := by decide +kernel
theorem dX5_ask_23 : decode cX5_ask 23 = .ok (.getfield 48, 3) := by decide +kernel
theorem dX5_ask_26 : decode cX5_ask 26 = .ok (.invokevirtual 89, 3) := by decide +kernel
theorem dX5_ask_29 : decode cX5_ask 29 = .ok (.aload_n 0, 1) := by decide +kernel
theorem dX5_ask_30 : decode cX5_ask 30 = .ok (.invokevirtual 103, 3) := by decide +kernel
theorem dX5_ask_33 : decode cX5_ask 33 = .ok (.ireturn, 1) := by decide +kernel
theorem dX5_leave_0 : decode cX5_leave 0 = .ok (.aload_n 0, 1) := by decide +kernel
theorem dX5_leave_1 : decode cX5_leave 1 = .ok (.getfield 19, 3) := by decide +kernel
theorem dX5_leave_4 : decode cX5_leave 4 = .ok (.getfield 95, 3) := by decide +kernel
theorem dX5_leave_7 : decode cX5_leave 7 = .ok (.istore_n 1, 1) := by decide +kernel
theorem dX5_leave_8 : decode cX5_leave 8 = .ok (.aload_n 0, 1) := by decide +kernel
theorem dX5_leave_9 : decode cX5_leave 9 = .ok (.getfield 19, 3) := by decide +kernel
theorem dX5_leave_12 : decode cX5_leave 12 = .ok (.iconst (-1), 1) := by decide +kernel
theorem dX5_leave_13 : decode cX5_leave 13 = .ok (.putfield 95, 3) := by decide +kernel
theorem dX5_leave_16 : decode cX5_leave 16 = .ok (.aload_n 0, 1) := by decide +kernel
theorem dX5_leave_17 : decode cX5_leave 17 = .ok (.getfield 48, 3) := by decide +kernel
theorem dX5_leave_20 : decode cX5_leave 20 = .ok (.invokevirtual 107, 3) := by decide +kernel
theorem dX5_leave_23 : decode cX5_leave 23 = .ok (.iload_n 1, 1) := by decide +kernel
theorem dX5_leave_24 : decode cX5_leave 24 = .ok (.ireturn, 1) := by decide +kernel
theorem dX5_way_0 : decode cX5_way 0 = .ok (.iload_n 1, 1) := by decide +kernel
theorem dX5_way_1 : decode cX5_way 1 = .ok (.iconst (-1), 1) := by decide +kernel
theorem dX5_way_2 : decode cX5_way 2 = .ok (.if_icmp .ne 8, 3) := by decide +kernel
theorem dX5_way_5 : decode cX5_way 5 = .ok (.aload_n 0, 1) := by decide +kernel
theorem dX5_way_6 : decode cX5_way 6 = .ok (.invokevirtual 103, 3) := by decide +kernel
theorem dX5_way_9 : decode cX5_way 9 = .ok (.ireturn, 1) := by decide +kernel
theorem dX5_way_10 : decode cX5_way 10 = .ok (.iload_n 1, 1) := by decide +kernel
theorem dX5_way_11 : decode cX5_way 11 = .ok (.ifCond .lt 14, 3) := by decide +kernel
theorem dX5_way_14 : decode cX5_way 14 = .ok (.iload_n 1, 1) := by decide +kernel
theorem dX5_way_15 : decode cX5_way 15 = .ok (.aload_n 0, 1) := by decide +kernel
theorem dX5_way_16 : decode cX5_way 16 = .ok (.getfield 48, 3) := by decide +kernel
theorem dX5_way_19 : decode cX5_way 19 = .ok (.invokevirtual 110, 3) := by decide +kernel
theorem dX5_way_22 : decode cX5_way 22 = .ok (.if_icmp .lt 13, 3) := by decide +kernel
theorem dX5_way_25 : decode cX5_way 25 = .ok (.new 113, 3) := by decide +kernel
theorem dX5_way_28 : decode cX5_way 28 = .ok (.dup, 1) := by decide +kernel
theorem dX5_way_29 : decode cX5_way 29 = .ok (.ldc 115, 2) := by decide +kernel
theorem dX5_way_31 : decode cX5_way 31 = .ok (.invokespecial 117, 3) := by decide +kernel
theorem dX5_way_34 : decode cX5_way 34 = .ok (.athrow, 1) := by decide +kernel
theorem dX5_way_35 : decode cX5_way 35 = .ok (.aload_n 0, 1) := by decide +kernel
theorem dX5_way_36 : decode cX5_way 36 = .ok (.getfield 48, 3) := by decide +kernel
theorem dX5_way_39 : decode cX5_way 39 = .ok (.iload_n 1, 1) := by decide +kernel
theorem dX5_way_40 : decode cX5_way 40 = .ok (.invokevirtual 118, 3) := by decide +kernel
theorem dX5_way_43 : decode cX5_way 43 = .ok (.ireturn, 1) := by decide +kernel
theorem dX5_cost_0 : decode cX5_cost 0 = .ok (.aload_n 0, 1) := by decide +kernel
theorem dX5_cost_1 : decode cX5_cost 1 = .ok (.getfield 48, 3) := by decide +kernel
theorem dX5_cost_4 : decode cX5_cost 4 = .ok (.invokevirtual 122, 3) := by decide +kernel
theorem dX5_cost_7 : decode cX5_cost 7 = .ok (.lreturn, 1) := by decide +kernel
theorem dX5_reach_0 : decode cX5_reach 0 = .ok (.aload_n 0, 1) := by decide +kernel
theorem dX5_reach_1 : decode cX5_reach 1 = .ok (.iload_n 1, 1) := by decide +kernel
theorem dX5_reach_2 : decode cX5_reach 2 = .ok (.invokevirtual 126, 3) := by decide +kernel
theorem dX5_reach_5 : decode cX5_reach 5 = .ok (.aload_n 0, 1) := by decide +kernel
theorem dX5_reach_6 : decode cX5_reach 6 = .ok (.iload_n 2, 1) := by decide +kernel
theorem dX5_reach_7 : decode cX5_reach 7 = .ok (.invokevirtual 92, 3) := by decide +kernel
theorem dX5_reach_10 : decode cX5_reach 10 = .ok (.aload_n 0, 1) := by decide +kernel
theorem dX5_reach_11 : decode cX5_reach 11 = .ok (.getfield 39, 3) := by decide +kernel
theorem dX5_reach_14 : decode cX5_reach 14 = .ok (.aload_n 0, 1) := by decide +kernel
theorem dX5_reach_15 : decode cX5_reach 15 = .ok (.getfield 12, 3) := by decide +kernel
theorem dX5_reach_18 : decode cX5_reach 18 = .ok (.iload_n 2, 1) := by decide +kernel
theorem dX5_reach_19 : decode cX5_reach 19 = .ok (.iconst 0, 1) := by decide +kernel
theorem dX5_reach_20 : decode cX5_reach 20 = .ok (.iconst 1, 1) := by decide +kernel
theorem dX5_reach_21 : decode cX5_reach 21 = .ok (.invokevirtual 129, 3) := by decide +kernel
theorem dX5_reach_24 : decode cX5_reach 24 = .ok (.aload_n 0, 1) := by decide +kernel
theorem dX5_reach_25 : decode cX5_reach 25 = .ok (.getfield 39, 3) := by decide +kernel
theorem dX5_reach_28 : decode cX5_reach 28 = .ok (.getfield 133, 3) := by decide +kernel
theorem dX5_reach_31 : decode cX5_reach 31 = .ok (.iload_n 1, 1) := by decide +kernel
theorem dX5_reach_32 : decode cX5_reach 32 = .ok (.laload, 1) := by decide +kernel
theorem dX5_reach_33 : decode cX5_reach 33 = .ok (.lreturn, 1) := by decide +kernel
theorem dX5_lacks_0 : decode cX5_lacks 0 = .ok (.aload_n 0, 1) := by decide +kernel
theorem dX5_lacks_1 : decode cX5_lacks 1 = .ok (.iload_n 1, 1) := by decide +kernel
theorem dX5_lacks_2 : decode cX5_lacks 2 = .ok (.invokevirtual 126, 3) := by decide +kernel
theorem dX5_lacks_5 : decode cX5_lacks 5 = .ok (.aload_n 0, 1) := by decide +kernel
theorem dX5_lacks_6 : decode cX5_lacks 6 = .ok (.iload_n 2, 1) := by decide +kernel
theorem dX5_lacks_7 : decode cX5_lacks 7 = .ok (.invokevirtual 92, 3) := by decide +kernel
theorem dX5_lacks_10 : decode cX5_lacks 10 = .ok (.aload_n 0, 1) := by decide +kernel
theorem dX5_lacks_11 : decode cX5_lacks 11 = .ok (.getfield 39, 3) := by decide +kernel
theorem dX5_lacks_14 : decode cX5_lacks 14 = .ok (.aload_n 0, 1) := by decide +kernel
theorem dX5_lacks_15 : decode cX5_lacks 15 = .ok (.getfield 12, 3) := by decide +kernel
theorem dX5_lacks_18 : decode cX5_lacks 18 = .ok (.iload_n 2, 1) := by decide +kernel
theorem dX5_lacks_19 : decode cX5_lacks 19 = .ok (.iconst 0, 1) := by decide +kernel
theorem dX5_lacks_20 : decode cX5_lacks 20 = .ok (.iconst 1, 1) := by decide +kernel
theorem dX5_lacks_21 : decode cX5_lacks 21 = .ok (.invokevirtual 129, 3) := by decide +kernel
theorem dX5_lacks_24 : decode cX5_lacks 24 = .ok (.aload_n 0, 1) := by decide +kernel
theorem dX5_lacks_25 : decode cX5_lacks 25 = .ok (.getfield 12, 3) := by decide +kernel
theorem dX5_lacks_28 : decode cX5_lacks 28 = .ok (.iload_n 2, 1) := by decide +kernel
theorem dX5_lacks_29 : decode cX5_lacks 29 = .ok (.invokevirtual 137, 3) := by decide +kernel
theorem dX5_lacks_32 : decode cX5_lacks 32 = .ok (.istore_n 3, 1) := by decide +kernel
theorem dX5_lacks_33 : decode cX5_lacks 33 = .ok (.aload_n 0, 1) := by decide +kernel
theorem dX5_lacks_34 : decode cX5_lacks 34 = .ok (.getfield 39, 3) := by decide +kernel
theorem dX5_lacks_37 : decode cX5_lacks 37 = .ok (.getfield 133, 3) := by decide +kernel
theorem dX5_lacks_40 : decode cX5_lacks 40 = .ok (.iload_n 1, 1) := by decide +kernel
theorem dX5_lacks_41 : decode cX5_lacks 41 = .ok (.laload, 1) := by decide +kernel
theorem dX5_lacks_42 : decode cX5_lacks 42 = .ok (.ldc2_w 140, 3) := by decide +kernel
theorem dX5_lacks_45 : decode cX5_lacks 45 = .ok (.lcmp, 1) := by decide +kernel
theorem dX5_lacks_46 : decode cX5_lacks 46 = .ok (.ifCond .ne 8, 3) := by decide +kernel
theorem dX5_lacks_49 : decode cX5_lacks 49 = .ok (.iload_n 3, 1) := by decide +kernel
theorem dX5_lacks_50 : decode cX5_lacks 50 = .ok (.iconst (-1), 1) := by decide +kernel
theorem dX5_lacks_51 : decode cX5_lacks 51 = .ok (.if_icmp .ne 5, 3) := by decide +kernel
theorem dX5_lacks_54 : decode cX5_lacks 54 = .ok (.iconst (-1), 1) := by decide +kernel
theorem dX5_lacks_55 : decode cX5_lacks 55 = .ok (.ireturn, 1) := by decide +kernel
theorem dX5_lacks_56 : decode cX5_lacks 56 = .ok (.bipush 100, 2) := by decide +kernel
theorem dX5_lacks_58 : decode cX5_lacks 58 = .ok (.aload_n 0, 1) := by decide +kernel
theorem dX5_lacks_59 : decode cX5_lacks 59 = .ok (.getfield 12, 3) := by decide +kernel
theorem dX5_lacks_62 : decode cX5_lacks 62 = .ok (.iload_n 1, 1) := by decide +kernel
theorem dX5_lacks_63 : decode cX5_lacks 63 = .ok (.invokevirtual 142, 3) := by decide +kernel
theorem dX5_lacks_66 : decode cX5_lacks 66 = .ok (.imul, 1) := by decide +kernel
theorem dX5_lacks_67 : decode cX5_lacks 67 = .ok (.iload_n 3, 1) := by decide +kernel
theorem dX5_lacks_68 : decode cX5_lacks 68 = .ok (.iadd, 1) := by decide +kernel
theorem dX5_lacks_69 : decode cX5_lacks 69 = .ok (.ireturn, 1) := by decide +kernel
theorem dX5_layer_0 : decode cX5_layer 0 = .ok (.aload_n 0, 1) := by decide +kernel
theorem dX5_layer_1 : decode cX5_layer 1 = .ok (.iload_n 1, 1) := by decide +kernel
theorem dX5_layer_2 : decode cX5_layer 2 = .ok (.invokevirtual 59, 3) := by decide +kernel
theorem dX5_layer_5 : decode cX5_layer 5 = .ok (.aload_n 0, 1) := by decide +kernel
theorem dX5_layer_6 : decode cX5_layer 6 = .ok (.getfield 12, 3) := by decide +kernel
theorem dX5_layer_9 : decode cX5_layer 9 = .ok (.getfield 145, 3) := by decide +kernel
theorem dX5_layer_12 : decode cX5_layer 12 = .ok (.iload_n 1, 1) := by decide +kernel
theorem dX5_layer_13 : decode cX5_layer 13 = .ok (.iaload, 1) := by decide +kernel
theorem dX5_layer_14 : decode cX5_layer 14 = .ok (.iconst 2, 1) := by decide +kernel
theorem dX5_layer_15 : decode cX5_layer 15 = .ok (.if_icmp .ne 13, 3) := by decide +kernel
theorem dX5_layer_18 : decode cX5_layer 18 = .ok (.iload_n 2, 1) := by decide +kernel
theorem dX5_layer_19 : decode cX5_layer 19 = .ok (.ifCond .lt 9, 3) := by decide +kernel
theorem dX5_layer_22 : decode cX5_layer 22 = .ok (.iload_n 2, 1) := by decide +kernel
theorem dX5_layer_23 : decode cX5_layer 23 = .ok (.bipush 8, 2) := by decide +kernel
theorem dX5_layer_25 : decode cX5_layer 25 = .ok (.if_icmp .le 5, 3) := by decide +kernel
theorem dX5_layer_28 : decode cX5_layer 28 = .ok (.iconst (-1), 1) := by decide +kernel
theorem dX5_layer_29 : decode cX5_layer 29 = .ok (.ireturn, 1) := by decide +kernel
theorem dX5_layer_30 : decode cX5_layer 30 = .ok (.aload_n 0, 1) := by decide +kernel
theorem dX5_layer_31 : decode cX5_layer 31 = .ok (.getfield 19, 3) := by decide +kernel
theorem dX5_layer_34 : decode cX5_layer 34 = .ok (.getfield 148, 3) := by decide +kernel
theorem dX5_layer_37 : decode cX5_layer 37 = .ok (.iload_n 1, 1) := by decide +kernel
theorem dX5_layer_38 : decode cX5_layer 38 = .ok (.iaload, 1) := by decide +kernel
theorem dX5_layer_39 : decode cX5_layer 39 = .ok (.istore_n 3, 1) := by decide +kernel
theorem dX5_layer_40 : decode cX5_layer 40 = .ok (.aload_n 0, 1) := by decide +kernel
theorem dX5_layer_41 : decode cX5_layer 41 = .ok (.getfield 19, 3) := by decide +kernel
theorem dX5_layer_44 : decode cX5_layer 44 = .ok (.getfield 148, 3) := by decide +kernel
theorem dX5_layer_47 : decode cX5_layer 47 = .ok (.iload_n 1, 1) := by decide +kernel
theorem dX5_layer_48 : decode cX5_layer 48 = .ok (.iload_n 2, 1) := by decide +kernel
theorem dX5_layer_49 : decode cX5_layer 49 = .ok (.iastore, 1) := by decide +kernel
theorem dX5_layer_50 : decode cX5_layer 50 = .ok (.iload_n 3, 1) := by decide +kernel
theorem dX5_layer_51 : decode cX5_layer 51 = .ok (.ireturn, 1) := by decide +kernel
theorem dX5_sting_0 : decode cX5_sting 0 = .ok (.aload_n 0, 1) := by decide +kernel
theorem dX5_sting_1 : decode cX5_sting 1 = .ok (.iload_n 1, 1) := by decide +kernel
theorem dX5_sting_2 : decode cX5_sting 2 = .ok (.invokevirtual 59, 3) := by decide +kernel
theorem dX5_sting_5 : decode cX5_sting 5 = .ok (.aload_n 0, 1) := by decide +kernel
theorem dX5_sting_6 : decode cX5_sting 6 = .ok (.getfield 12, 3) := by decide +kernel
theorem dX5_sting_9 : decode cX5_sting 9 = .ok (.getfield 145, 3) := by decide +kernel
theorem dX5_sting_12 : decode cX5_sting 12 = .ok (.iload_n 1, 1) := by decide +kernel
theorem dX5_sting_13 : decode cX5_sting 13 = .ok (.iaload, 1) := by decide +kernel
theorem dX5_sting_14 : decode cX5_sting 14 = .ok (.iconst 3, 1) := by decide +kernel
theorem dX5_sting_15 : decode cX5_sting 15 = .ok (.if_icmp .ne 14, 3) := by decide +kernel
theorem dX5_sting_18 : decode cX5_sting 18 = .ok (.aload_n 0, 1) := by decide +kernel
theorem dX5_sting_19 : decode cX5_sting 19 = .ok (.getfield 19, 3) := by decide +kernel
theorem dX5_sting_22 : decode cX5_sting 22 = .ok (.getfield 151, 3) := by decide +kernel
theorem dX5_sting_25 : decode cX5_sting 25 = .ok (.iconst 4, 1) := by decide +kernel
theorem dX5_sting_26 : decode cX5_sting 26 = .ok (.if_icmp .lt 5, 3) := by decide +kernel
theorem dX5_sting_29 : decode cX5_sting 29 = .ok (.iconst (-1), 1) := by decide +kernel
theorem dX5_sting_30 : decode cX5_sting 30 = .ok (.ireturn, 1) := by decide +kernel
theorem dX5_sting_31 : decode cX5_sting 31 = .ok (.aload_n 0, 1) := by decide +kernel
theorem dX5_sting_32 : decode cX5_sting 32 = .ok (.getfield 19, 3) := by decide +kernel
theorem dX5_sting_35 : decode cX5_sting 35 = .ok (.getfield 154, 3) := by decide +kernel
theorem dX5_sting_38 : decode cX5_sting 38 = .ok (.aload_n 0, 1) := by decide +kernel
theorem dX5_sting_39 : decode cX5_sting 39 = .ok (.getfield 19, 3) := by decide +kernel
theorem dX5_sting_42 : decode cX5_sting 42 = .ok (.getfield 151, 3) := by decide +kernel
theorem dX5_sting_45 : decode cX5_sting 45 = .ok (.iload_n 1, 1) := by decide +kernel
theorem dX5_sting_46 : decode cX5_sting 46 = .ok (.iastore, 1) := by decide +kernel
theorem dX5_sting_47 : decode cX5_sting 47 = .ok (.aload_n 0, 1) := by decide +kernel
theorem dX5_sting_48 : decode cX5_sting 48 = .ok (.getfield 19, 3) := by decide +kernel
theorem dX5_sting_51 : decode cX5_sting 51 = .ok (.dup, 1) := by decide +kernel
theorem dX5_sting_52 : decode cX5_sting 52 = .ok (.getfield 151, 3) := by decide +kernel
theorem dX5_sting_55 : decode cX5_sting 55 = .ok (.iconst 1, 1) := by decide +kernel
theorem dX5_sting_56 : decode cX5_sting 56 = .ok (.iadd, 1) := by decide +kernel
theorem dX5_sting_57 : decode cX5_sting 57 = .ok (.putfield 151, 3) := by decide +kernel
theorem dX5_sting_60 : decode cX5_sting 60 = .ok (.aload_n 0, 1) := by decide +kernel
theorem dX5_sting_61 : decode cX5_sting 61 = .ok (.getfield 19, 3) := by decide +kernel
theorem dX5_sting_64 : decode cX5_sting 64 = .ok (.getfield 151, 3) := by decide +kernel
theorem dX5_sting_67 : decode cX5_sting 67 = .ok (.ireturn, 1) := by decide +kernel
theorem dX5_go_0 : decode cX5_go 0 = .ok (.iload_n 1, 1) := by decide +kernel
theorem dX5_go_1 : decode cX5_go 1 = .ok (.ifCond .lt 10, 3) := by decide +kernel
theorem dX5_go_4 : decode cX5_go 4 = .ok (.iload_n 1, 1) := by decide +kernel
theorem dX5_go_5 : decode cX5_go 5 = .ok (.sipush 20000, 3) := by decide +kernel
theorem dX5_go_8 : decode cX5_go 8 = .ok (.if_icmp .le 13, 3) := by decide +kernel
theorem dX5_go_11 : decode cX5_go 11 = .ok (.new 67, 3) := by decide +kernel
theorem dX5_go_14 : decode cX5_go 14 = .ok (.dup, 1) := by decide +kernel
theorem dX5_go_15 : decode cX5_go 15 = .ok (.ldc 157, 2) := by decide +kernel
theorem dX5_go_17 : decode cX5_go 17 = .ok (.invokespecial 71, 3) := by decide +kernel
theorem dX5_go_20 : decode cX5_go 20 = .ok (.athrow, 1) := by decide +kernel
theorem dX5_go_21 : decode cX5_go 21 = .ok (.aload_n 0, 1) := by decide +kernel
theorem dX5_go_22 : decode cX5_go 22 = .ok (.getfield 19, 3) := by decide +kernel
theorem dX5_go_25 : decode cX5_go 25 = .ok (.getfield 159, 3) := by decide +kernel
theorem dX5_go_28 : decode cX5_go 28 = .ok (.iload_n 1, 1) := by decide +kernel
theorem dX5_go_29 : decode cX5_go 29 = .ok (.i2l, 1) := by decide +kernel
theorem dX5_go_30 : decode cX5_go 30 = .ok (.ladd, 1) := by decide +kernel
theorem dX5_go_31 : decode cX5_go 31 = .ok (.lstore_n 2, 1) := by decide +kernel
theorem dX5_go_32 : decode cX5_go 32 = .ok (.iconst 0, 1) := by decide +kernel
theorem dX5_go_33 : decode cX5_go 33 = .ok (.istore 4, 2) := by decide +kernel
theorem dX5_go_35 : decode cX5_go 35 = .ok (.iload 4, 2) := by decide +kernel
theorem dX5_go_37 : decode cX5_go 37 = .ok (.iload_n 1, 1) := by decide +kernel
theorem dX5_go_38 : decode cX5_go 38 = .ok (.if_icmp .gt 87, 3) := by decide +kernel
theorem dX5_go_41 : decode cX5_go 41 = .ok (.aload_n 0, 1) := by decide +kernel
theorem dX5_go_42 : decode cX5_go 42 = .ok (.invokevirtual 163, 3) := by decide +kernel
theorem dX5_go_45 : decode cX5_go 45 = .ok (.lstore 5, 2) := by decide +kernel
theorem dX5_go_47 : decode cX5_go 47 = .ok (.lload 5, 2) := by decide +kernel
theorem dX5_go_49 : decode cX5_go 49 = .ok (.lload_n 2, 1) := by decide +kernel
theorem dX5_go_50 : decode cX5_go 50 = .ok (.lcmp, 1) := by decide +kernel
theorem dX5_go_51 : decode cX5_go 51 = .ok (.ifCond .le 6, 3) := by decide +kernel
theorem dX5_go_54 : decode cX5_go 54 = .ok (.goto 71, 3) := by decide +kernel
theorem dX5_go_57 : decode cX5_go 57 = .ok (.aload_n 0, 1) := by decide +kernel
theorem dX5_go_58 : decode cX5_go 58 = .ok (.getfield 19, 3) := by decide +kernel
theorem dX5_go_61 : decode cX5_go 61 = .ok (.lload 5, 2) := by decide +kernel
theorem dX5_go_63 : decode cX5_go 63 = .ok (.putfield 159, 3) := by decide +kernel
theorem dX5_go_66 : decode cX5_go 66 = .ok (.aload_n 0, 1) := by decide +kernel
theorem dX5_go_67 : decode cX5_go 67 = .ok (.getfield 19, 3) := by decide +kernel
theorem dX5_go_70 : decode cX5_go 70 = .ok (.getfield 166, 3) := by decide +kernel
theorem dX5_go_73 : decode cX5_go 73 = .ok (.iconst (-1), 1) := by decide +kernel
theorem dX5_go_74 : decode cX5_go 74 = .ok (.if_icmp .eq 20, 3) := by decide +kernel
theorem dX5_go_77 : decode cX5_go 77 = .ok (.aload_n 0, 1) := by decide +kernel
theorem dX5_go_78 : decode cX5_go 78 = .ok (.getfield 19, 3) := by decide +kernel
theorem dX5_go_81 : decode cX5_go 81 = .ok (.getfield 169, 3) := by decide +kernel
theorem dX5_go_84 : decode cX5_go 84 = .ok (.lload 5, 2) := by decide +kernel
theorem dX5_go_86 : decode cX5_go 86 = .ok (.lcmp, 1) := by decide +kernel
theorem dX5_go_87 : decode cX5_go 87 = .ok (.ifCond .ne 7, 3) := by decide +kernel
theorem dX5_go_90 : decode cX5_go 90 = .ok (.aload_n 0, 1) := by decide +kernel
theorem dX5_go_91 : decode cX5_go 91 = .ok (.invokevirtual 172, 3) := by decide +kernel
theorem dX5_go_94 : decode cX5_go 94 = .ok (.aload_n 0, 1) := by decide +kernel
theorem dX5_go_95 : decode cX5_go 95 = .ok (.getfield 19, 3) := by decide +kernel
theorem dX5_go_98 : decode cX5_go 98 = .ok (.getfield 175, 3) := by decide +kernel
theorem dX5_go_101 : decode cX5_go 101 = .ok (.iconst (-1), 1) := by decide +kernel
theorem dX5_go_102 : decode cX5_go 102 = .ok (.if_icmp .eq 17, 3) := by decide +kernel
theorem dX5_go_105 : decode cX5_go 105 = .ok (.aload_n 0, 1) := by decide +kernel
theorem dX5_go_106 : decode cX5_go 106 = .ok (.invokevirtual 178, 3) := by decide +kernel
theorem dX5_go_109 : decode cX5_go 109 = .ok (.lload 5, 2) := by decide +kernel
theorem dX5_go_111 : decode cX5_go 111 = .ok (.lcmp, 1) := by decide +kernel
theorem dX5_go_112 : decode cX5_go 112 = .ok (.ifCond .ne 7, 3) := by decide +kernel
theorem dX5_go_115 : decode cX5_go 115 = .ok (.aload_n 0, 1) := by decide +kernel
theorem dX5_go_116 : decode cX5_go 116 = .ok (.invokevirtual 181, 3) := by decide +kernel
theorem dX5_go_119 : decode cX5_go 119 = .ok (.iinc 4 1, 3) := by decide +kernel
theorem dX5_go_122 : decode cX5_go 122 = .ok (.goto (-87), 3) := by decide +kernel
theorem dX5_go_125 : decode cX5_go 125 = .ok (.aload_n 0, 1) := by decide +kernel
theorem dX5_go_126 : decode cX5_go 126 = .ok (.getfield 19, 3) := by decide +kernel
theorem dX5_go_129 : decode cX5_go 129 = .ok (.lload_n 2, 1) := by decide +kernel
theorem dX5_go_130 : decode cX5_go 130 = .ok (.putfield 159, 3) := by decide +kernel
theorem dX5_go_133 : decode cX5_go 133 = .ok (.lload_n 2, 1) := by decide +kernel
theorem dX5_go_134 : decode cX5_go 134 = .ok (.lreturn, 1) := by decide +kernel
theorem dX5_now_0 : decode cX5_now 0 = .ok (.iload_n 1, 1) := by decide +kernel
theorem dX5_now_1 : decode cX5_now 1 = .ok (.tableswitch 163 0 10 #[59, 67, 75, 83, 107, 115, 123, 131, 139, 147, 155], 59) := by decide +kernel
theorem dX5_now_60 : decode cX5_now 60 = .ok (.aload_n 0, 1) := by decide +kernel
theorem dX5_now_61 : decode cX5_now 61 = .ok (.getfield 19, 3) := by decide +kernel
theorem dX5_now_64 : decode cX5_now 64 = .ok (.getfield 175, 3) := by decide +kernel
theorem dX5_now_67 : decode cX5_now 67 = .ok (.ireturn, 1) := by decide +kernel
theorem dX5_now_68 : decode cX5_now 68 = .ok (.aload_n 0, 1) := by decide +kernel
theorem dX5_now_69 : decode cX5_now 69 = .ok (.getfield 19, 3) := by decide +kernel
theorem dX5_now_72 : decode cX5_now 72 = .ok (.getfield 184, 3) := by decide +kernel
theorem dX5_now_75 : decode cX5_now 75 = .ok (.ireturn, 1) := by decide +kernel
theorem dX5_now_76 : decode cX5_now 76 = .ok (.aload_n 0, 1) := by decide +kernel
theorem dX5_now_77 : decode cX5_now 77 = .ok (.getfield 19, 3) := by decide +kernel
theorem dX5_now_80 : decode cX5_now 80 = .ok (.getfield 187, 3) := by decide +kernel
theorem dX5_now_83 : decode cX5_now 83 = .ok (.ireturn, 1) := by decide +kernel
theorem dX5_now_84 : decode cX5_now 84 = .ok (.aload_n 0, 1) := by decide +kernel
theorem dX5_now_85 : decode cX5_now 85 = .ok (.getfield 19, 3) := by decide +kernel
theorem dX5_now_88 : decode cX5_now 88 = .ok (.getfield 175, 3) := by decide +kernel
theorem dX5_now_91 : decode cX5_now 91 = .ok (.iconst (-1), 1) := by decide +kernel
theorem dX5_now_92 : decode cX5_now 92 = .ok (.if_icmp .ne 7, 3) := by decide +kernel
theorem dX5_now_95 : decode cX5_now 95 = .ok (.iconst 0, 1) := by decide +kernel
theorem dX5_now_96 : decode cX5_now 96 = .ok (.goto 11, 3) := by decide +kernel
theorem dX5_now_99 : decode cX5_now 99 = .ok (.aload_n 0, 1) := by decide +kernel
theorem dX5_now_100 : decode cX5_now 100 = .ok (.getfield 19, 3) := by decide +kernel
theorem dX5_now_103 : decode cX5_now 103 = .ok (.invokevirtual 190, 3) := by decide +kernel
theorem dX5_now_106 : decode cX5_now 106 = .ok (.l2i, 1) := by decide +kernel
theorem dX5_now_107 : decode cX5_now 107 = .ok (.ireturn, 1) := by decide +kernel
theorem dX5_now_108 : decode cX5_now 108 = .ok (.aload_n 0, 1) := by decide +kernel
theorem dX5_now_109 : decode cX5_now 109 = .ok (.getfield 19, 3) := by decide +kernel
theorem dX5_now_112 : decode cX5_now 112 = .ok (.getfield 95, 3) := by decide +kernel
theorem dX5_now_115 : decode cX5_now 115 = .ok (.ireturn, 1) := by decide +kernel
theorem dX5_now_116 : decode cX5_now 116 = .ok (.aload_n 0, 1) := by decide +kernel
theorem dX5_now_117 : decode cX5_now 117 = .ok (.getfield 19, 3) := by decide +kernel
theorem dX5_now_120 : decode cX5_now 120 = .ok (.getfield 166, 3) := by decide +kernel
theorem dX5_now_123 : decode cX5_now 123 = .ok (.ireturn, 1) := by decide +kernel
theorem dX5_now_124 : decode cX5_now 124 = .ok (.aload_n 0, 1) := by decide +kernel
theorem dX5_now_125 : decode cX5_now 125 = .ok (.getfield 19, 3) := by decide +kernel
theorem dX5_now_128 : decode cX5_now 128 = .ok (.getfield 151, 3) := by decide +kernel
theorem dX5_now_131 : decode cX5_now 131 = .ok (.ireturn, 1) := by decide +kernel
theorem dX5_now_132 : decode cX5_now 132 = .ok (.aload_n 0, 1) := by decide +kernel
theorem dX5_now_133 : decode cX5_now 133 = .ok (.getfield 19, 3) := by decide +kernel
theorem dX5_now_136 : decode cX5_now 136 = .ok (.invokevirtual 193, 3) := by decide +kernel
theorem dX5_now_139 : decode cX5_now 139 = .ok (.ireturn, 1) := by decide +kernel
theorem dX5_now_140 : decode cX5_now 140 = .ok (.aload_n 0, 1) := by decide +kernel
theorem dX5_now_141 : decode cX5_now 141 = .ok (.getfield 32, 3) := by decide +kernel
theorem dX5_now_144 : decode cX5_now 144 = .ok (.getfield 196, 3) := by decide +kernel
theorem dX5_now_147 : decode cX5_now 147 = .ok (.ireturn, 1) := by decide +kernel
theorem dX5_now_148 : decode cX5_now 148 = .ok (.aload_n 0, 1) := by decide +kernel
theorem dX5_now_149 : decode cX5_now 149 = .ok (.getfield 12, 3) := by decide +kernel
theorem dX5_now_152 : decode cX5_now 152 = .ok (.getfield 199, 3) := by decide +kernel
theorem dX5_now_155 : decode cX5_now 155 = .ok (.ireturn, 1) := by decide +kernel
theorem dX5_now_156 : decode cX5_now 156 = .ok (.aload_n 0, 1) := by decide +kernel
theorem dX5_now_157 : decode cX5_now 157 = .ok (.getfield 12, 3) := by decide +kernel
theorem dX5_now_160 : decode cX5_now 160 = .ok (.getfield 202, 3) := by decide +kernel
theorem dX5_now_163 : decode cX5_now 163 = .ok (.ireturn, 1) := by decide +kernel
theorem dX5_now_164 : decode cX5_now 164 = .ok (.new 113, 3) := by decide +kernel
theorem dX5_now_167 : decode cX5_now 167 = .ok (.dup, 1) := by decide +kernel
theorem dX5_now_168 : decode cX5_now 168 = .ok (.ldc 205, 2) := by decide +kernel
theorem dX5_now_170 : decode cX5_now 170 = .ok (.invokespecial 117, 3) := by decide +kernel
theorem dX5_now_173 : decode cX5_now 173 = .ok (.athrow, 1) := by decide +kernel
theorem dX5_level_0 : decode cX5_level 0 = .ok (.aload_n 0, 1) := by decide +kernel
theorem dX5_level_1 : decode cX5_level 1 = .ok (.iload_n 1, 1) := by decide +kernel
theorem dX5_level_2 : decode cX5_level 2 = .ok (.invokevirtual 59, 3) := by decide +kernel
theorem dX5_level_5 : decode cX5_level 5 = .ok (.aload_n 0, 1) := by decide +kernel
theorem dX5_level_6 : decode cX5_level 6 = .ok (.getfield 19, 3) := by decide +kernel
theorem dX5_level_9 : decode cX5_level 9 = .ok (.getfield 207, 3) := by decide +kernel
theorem dX5_level_12 : decode cX5_level 12 = .ok (.iload_n 1, 1) := by decide +kernel
theorem dX5_level_13 : decode cX5_level 13 = .ok (.iaload, 1) := by decide +kernel
theorem dX5_level_14 : decode cX5_level 14 = .ok (.ireturn, 1) := by decide +kernel
theorem dX5_log_0 : decode cX5_log 0 = .ok (.iload_n 1, 1) := by decide +kernel
theorem dX5_log_1 : decode cX5_log 1 = .ok (.ifCond .lt 23, 3) := by decide +kernel
theorem dX5_log_4 : decode cX5_log 4 = .ok (.iload_n 1, 1) := by decide +kernel
theorem dX5_log_5 : decode cX5_log 5 = .ok (.aload_n 0, 1) := by decide +kernel
theorem dX5_log_6 : decode cX5_log 6 = .ok (.getfield 32, 3) := by decide +kernel
theorem dX5_log_9 : decode cX5_log 9 = .ok (.getfield 196, 3) := by decide +kernel
theorem dX5_log_12 : decode cX5_log 12 = .ok (.if_icmp .ge 12, 3) := by decide +kernel
theorem dX5_log_15 : decode cX5_log 15 = .ok (.iload_n 2, 1) := by decide +kernel
theorem dX5_log_16 : decode cX5_log 16 = .ok (.ifCond .lt 8, 3) := by decide +kernel
theorem dX5_log_19 : decode cX5_log 19 = .ok (.iload_n 2, 1) := by decide +kernel
theorem dX5_log_20 : decode cX5_log 20 = .ok (.iconst 2, 1) := by decide +kernel
theorem dX5_log_21 : decode cX5_log 21 = .ok (.if_icmp .le 13, 3) := by decide +kernel
theorem dX5_log_24 : decode cX5_log 24 = .ok (.new 113, 3) := by decide +kernel
theorem dX5_log_27 : decode cX5_log 27 = .ok (.dup, 1) := by decide +kernel
theorem dX5_log_28 : decode cX5_log 28 = .ok (.ldc 210, 2) := by decide +kernel
theorem dX5_log_30 : decode cX5_log 30 = .ok (.invokespecial 117, 3) := by decide +kernel
theorem dX5_log_33 : decode cX5_log 33 = .ok (.athrow, 1) := by decide +kernel
theorem dX5_log_34 : decode cX5_log 34 = .ok (.aload_n 0, 1) := by decide +kernel
theorem dX5_log_35 : decode cX5_log 35 = .ok (.getfield 32, 3) := by decide +kernel
theorem dX5_log_38 : decode cX5_log 38 = .ok (.iload_n 1, 1) := by decide +kernel
theorem dX5_log_39 : decode cX5_log 39 = .ok (.iload_n 2, 1) := by decide +kernel
theorem dX5_log_40 : decode cX5_log 40 = .ok (.invokevirtual 212, 3) := by decide +kernel
theorem dX5_log_43 : decode cX5_log 43 = .ok (.lreturn, 1) := by decide +kernel
theorem dX5_keep_0 : decode cX5_keep 0 = .ok (.aload_n 0, 1) := by decide +kernel
theorem dX5_keep_1 : decode cX5_keep 1 = .ok (.iload_n 1, 1) := by decide +kernel
theorem dX5_keep_2 : decode cX5_keep 2 = .ok (.invokevirtual 216, 3) := by decide +kernel
theorem dX5_keep_5 : decode cX5_keep 5 = .ok (.astore_n 2, 1) := by decide +kernel
theorem dX5_keep_6 : decode cX5_keep 6 = .ok (.aload_n 2, 1) := by decide +kernel
theorem dX5_keep_7 : decode cX5_keep 7 = .ok (.getfield 220, 3) := by decide +kernel
theorem dX5_keep_10 : decode cX5_keep 10 = .ok (.istore_n 3, 1) := by decide +kernel
theorem dX5_keep_11 : decode cX5_keep 11 = .ok (.aload_n 2, 1) := by decide +kernel
theorem dX5_keep_12 : decode cX5_keep 12 = .ok (.aload_n 0, 1) := by decide +kernel
theorem dX5_keep_13 : decode cX5_keep 13 = .ok (.getfield 19, 3) := by decide +kernel
theorem dX5_keep_16 : decode cX5_keep 16 = .ok (.invokevirtual 224, 3) := by decide +kernel
theorem dX5_keep_19 : decode cX5_keep 19 = .ok (.aload_n 2, 1) := by decide +kernel
theorem dX5_keep_20 : decode cX5_keep 20 = .ok (.iconst 1, 1) := by decide +kernel
theorem dX5_keep_21 : decode cX5_keep 21 = .ok (.putfield 220, 3) := by decide +kernel
theorem dX5_keep_24 : decode cX5_keep 24 = .ok (.iload_n 3, 1) := by decide +kernel
theorem dX5_keep_25 : decode cX5_keep 25 = .ok (.ireturn, 1) := by decide +kernel
theorem dX5_goOn_0 : decode cX5_goOn 0 = .ok (.aload_n 0, 1) := by decide +kernel
theorem dX5_goOn_1 : decode cX5_goOn 1 = .ok (.iload_n 1, 1) := by decide +kernel
theorem dX5_goOn_2 : decode cX5_goOn 2 = .ok (.invokevirtual 216, 3) := by decide +kernel
theorem dX5_goOn_5 : decode cX5_goOn 5 = .ok (.astore_n 2, 1) := by decide +kernel
theorem dX5_goOn_6 : decode cX5_goOn 6 = .ok (.aload_n 2, 1) := by decide +kernel
theorem dX5_goOn_7 : decode cX5_goOn 7 = .ok (.getfield 220, 3) := by decide +kernel
theorem dX5_goOn_10 : decode cX5_goOn 10 = .ok (.ifCond .ne 5, 3) := by decide +kernel
theorem dX5_goOn_13 : decode cX5_goOn 13 = .ok (.iconst 0, 1) := by decide +kernel
theorem dX5_goOn_14 : decode cX5_goOn 14 = .ok (.ireturn, 1) := by decide +kernel
theorem dX5_goOn_15 : decode cX5_goOn 15 = .ok (.aload_n 0, 1) := by decide +kernel
theorem dX5_goOn_16 : decode cX5_goOn 16 = .ok (.getfield 19, 3) := by decide +kernel
theorem dX5_goOn_19 : decode cX5_goOn 19 = .ok (.aload_n 2, 1) := by decide +kernel
theorem dX5_goOn_20 : decode cX5_goOn 20 = .ok (.invokevirtual 224, 3) := by decide +kernel
theorem dX5_goOn_23 : decode cX5_goOn 23 = .ok (.aload_n 0, 1) := by decide +kernel
theorem dX5_goOn_24 : decode cX5_goOn 24 = .ok (.getfield 48, 3) := by decide +kernel
theorem dX5_goOn_27 : decode cX5_goOn 27 = .ok (.invokevirtual 89, 3) := by decide +kernel
theorem dX5_goOn_30 : decode cX5_goOn 30 = .ok (.iconst 1, 1) := by decide +kernel
theorem dX5_goOn_31 : decode cX5_goOn 31 = .ok (.ireturn, 1) := by decide +kernel
theorem dX5_checkPiece_0 : decode cX5_checkPiece 0 = .ok (.aload_n 0, 1) := by decide +kernel
theorem dX5_checkPiece_1 : decode cX5_checkPiece 1 = .ok (.getfield 12, 3) := by decide +kernel
theorem dX5_checkPiece_4 : decode cX5_checkPiece 4 = .ok (.iload_n 1, 1) := by decide +kernel
theorem dX5_checkPiece_5 : decode cX5_checkPiece 5 = .ok (.invokevirtual 227, 3) := by decide +kernel
theorem dX5_checkPiece_8 : decode cX5_checkPiece 8 = .ok (.ifCond .ne 13, 3) := by decide +kernel
theorem dX5_checkPiece_11 : decode cX5_checkPiece 11 = .ok (.new 113, 3) := by decide +kernel
theorem dX5_checkPiece_14 : decode cX5_checkPiece 14 = .ok (.dup, 1) := by decide +kernel
theorem dX5_checkPiece_15 : decode cX5_checkPiece 15 = .ok (.ldc 230, 2) := by decide +kernel
theorem dX5_checkPiece_17 : decode cX5_checkPiece 17 = .ok (.invokespecial 117, 3) := by decide +kernel
theorem dX5_checkPiece_20 : decode cX5_checkPiece 20 = .ok (.athrow, 1) := by decide +kernel
theorem dX5_checkPiece_21 : decode cX5_checkPiece 21 = .ok (.return_, 1) := by decide +kernel
theorem dX5_checkPlayable_0 : decode cX5_checkPlayable 0 = .ok (.aload_n 0, 1) := by decide +kernel
theorem dX5_checkPlayable_1 : decode cX5_checkPlayable 1 = .ok (.getfield 12, 3) := by decide +kernel
theorem dX5_checkPlayable_4 : decode cX5_checkPlayable 4 = .ok (.iload_n 1, 1) := by decide +kernel
theorem dX5_checkPlayable_5 : decode cX5_checkPlayable 5 = .ok (.invokevirtual 78, 3) := by decide +kernel
theorem dX5_checkPlayable_8 : decode cX5_checkPlayable 8 = .ok (.ifCond .ne 13, 3) := by decide +kernel
theorem dX5_checkPlayable_11 : decode cX5_checkPlayable 11 = .ok (.new 113, 3) := by decide +kernel
theorem dX5_checkPlayable_14 : decode cX5_checkPlayable 14 = .ok (.dup, 1) := by decide +kernel
theorem dX5_checkPlayable_15 : decode cX5_checkPlayable 15 = .ok (.ldc 232, 2) := by decide +kernel
theorem dX5_checkPlayable_17 : decode cX5_checkPlayable 17 = .ok (.invokespecial 117, 3) := by decide +kernel
theorem dX5_checkPlayable_20 : decode cX5_checkPlayable 20 = .ok (.athrow, 1) := by decide +kernel
theorem dX5_checkPlayable_21 : decode cX5_checkPlayable 21 = .ok (.return_, 1) := by decide +kernel
theorem dX5_checkMood_0 : decode cX5_checkMood 0 = .ok (.iload_n 1, 1) := by decide +kernel
theorem dX5_checkMood_1 : decode cX5_checkMood 1 = .ok (.ifCond .lt 9, 3) := by decide +kernel
theorem dX5_checkMood_4 : decode cX5_checkMood 4 = .ok (.iload_n 1, 1) := by decide +kernel
theorem dX5_checkMood_5 : decode cX5_checkMood 5 = .ok (.bipush 8, 2) := by decide +kernel
theorem dX5_checkMood_7 : decode cX5_checkMood 7 = .ok (.if_icmp .lt 13, 3) := by decide +kernel
theorem dX5_checkMood_10 : decode cX5_checkMood 10 = .ok (.new 67, 3) := by decide +kernel
theorem dX5_checkMood_13 : decode cX5_checkMood 13 = .ok (.dup, 1) := by decide +kernel
theorem dX5_checkMood_14 : decode cX5_checkMood 14 = .ok (.ldc 234, 2) := by decide +kernel
theorem dX5_checkMood_16 : decode cX5_checkMood 16 = .ok (.invokespecial 71, 3) := by decide +kernel
theorem dX5_checkMood_19 : decode cX5_checkMood 19 = .ok (.athrow, 1) := by decide +kernel
theorem dX5_checkMood_20 : decode cX5_checkMood 20 = .ok (.return_, 1) := by decide +kernel
theorem dX5_slotAt_0 : decode cX5_slotAt 0 = .ok (.iload_n 1, 1) := by decide +kernel
theorem dX5_slotAt_1 : decode cX5_slotAt 1 = .ok (.ifCond .lt 17, 3) := by decide +kernel
theorem dX5_slotAt_4 : decode cX5_slotAt 4 = .ok (.iload_n 1, 1) := by decide +kernel
theorem dX5_slotAt_5 : decode cX5_slotAt 5 = .ok (.iconst 4, 1) := by decide +kernel
theorem dX5_slotAt_6 : decode cX5_slotAt 6 = .ok (.if_icmp .ge 12, 3) := by decide +kernel
theorem dX5_slotAt_9 : decode cX5_slotAt 9 = .ok (.aload_n 0, 1) := by decide +kernel
theorem dX5_slotAt_10 : decode cX5_slotAt 10 = .ok (.getfield 23, 3) := by decide +kernel
theorem dX5_slotAt_13 : decode cX5_slotAt 13 = .ok (.iload_n 1, 1) := by decide +kernel
theorem dX5_slotAt_14 : decode cX5_slotAt 14 = .ok (.aaload, 1) := by decide +kernel
theorem dX5_slotAt_15 : decode cX5_slotAt 15 = .ok (.ifnonnull 13, 3) := by decide +kernel
theorem dX5_slotAt_18 : decode cX5_slotAt 18 = .ok (.new 67, 3) := by decide +kernel
theorem dX5_slotAt_21 : decode cX5_slotAt 21 = .ok (.dup, 1) := by decide +kernel
theorem dX5_slotAt_22 : decode cX5_slotAt 22 = .ok (.ldc 236, 2) := by decide +kernel
theorem dX5_slotAt_24 : decode cX5_slotAt 24 = .ok (.invokespecial 71, 3) := by decide +kernel
theorem dX5_slotAt_27 : decode cX5_slotAt 27 = .ok (.athrow, 1) := by decide +kernel
theorem dX5_slotAt_28 : decode cX5_slotAt 28 = .ok (.aload_n 0, 1) := by decide +kernel
theorem dX5_slotAt_29 : decode cX5_slotAt 29 = .ok (.getfield 23, 3) := by decide +kernel
theorem dX5_slotAt_32 : decode cX5_slotAt 32 = .ok (.iload_n 1, 1) := by decide +kernel
theorem dX5_slotAt_33 : decode cX5_slotAt 33 = .ok (.aaload, 1) := by decide +kernel
theorem dX5_slotAt_34 : decode cX5_slotAt 34 = .ok (.areturn, 1) := by decide +kernel
theorem dX5_stepsLeft_0 : decode cX5_stepsLeft 0 = .ok (.aload_n 0, 1) := by decide +kernel
theorem dX5_stepsLeft_1 : decode cX5_stepsLeft 1 = .ok (.getfield 48, 3) := by decide +kernel
theorem dX5_stepsLeft_4 : decode cX5_stepsLeft 4 = .ok (.invokevirtual 110, 3) := by decide +kernel
theorem dX5_stepsLeft_7 : decode cX5_stepsLeft 7 = .ok (.istore_n 1, 1) := by decide +kernel
theorem dX5_stepsLeft_8 : decode cX5_stepsLeft 8 = .ok (.iload_n 1, 1) := by decide +kernel
theorem dX5_stepsLeft_9 : decode cX5_stepsLeft 9 = .ok (.ifCond .ne 7, 3) := by decide +kernel
theorem dX5_stepsLeft_12 : decode cX5_stepsLeft 12 = .ok (.iconst (-1), 1) := by decide +kernel
theorem dX5_stepsLeft_13 : decode cX5_stepsLeft 13 = .ok (.goto 4, 3) := by decide +kernel
theorem dX5_stepsLeft_16 : decode cX5_stepsLeft 16 = .ok (.iload_n 1, 1) := by decide +kernel
theorem dX5_stepsLeft_17 : decode cX5_stepsLeft 17 = .ok (.ireturn, 1) := by decide +kernel
theorem dX5_beatEnd_0 : decode cX5_beatEnd 0 = .ok (.aload_n 0, 1) := by decide +kernel
theorem dX5_beatEnd_1 : decode cX5_beatEnd 1 = .ok (.getfield 19, 3) := by decide +kernel
theorem dX5_beatEnd_4 : decode cX5_beatEnd 4 = .ok (.getfield 238, 3) := by decide +kernel
theorem dX5_beatEnd_7 : decode cX5_beatEnd 7 = .ok (.aload_n 0, 1) := by decide +kernel
theorem dX5_beatEnd_8 : decode cX5_beatEnd 8 = .ok (.getfield 12, 3) := by decide +kernel
theorem dX5_beatEnd_11 : decode cX5_beatEnd 11 = .ok (.getfield 241, 3) := by decide +kernel
theorem dX5_beatEnd_14 : decode cX5_beatEnd 14 = .ok (.aload_n 0, 1) := by decide +kernel
theorem dX5_beatEnd_15 : decode cX5_beatEnd 15 = .ok (.getfield 19, 3) := by decide +kernel
theorem dX5_beatEnd_18 : decode cX5_beatEnd 18 = .ok (.getfield 175, 3) := by decide +kernel
theorem dX5_beatEnd_21 : decode cX5_beatEnd 21 = .ok (.iaload, 1) := by decide +kernel
theorem dX5_beatEnd_22 : decode cX5_beatEnd 22 = .ok (.i2l, 1) := by decide +kernel
theorem dX5_beatEnd_23 : decode cX5_beatEnd 23 = .ok (.ladd, 1) := by decide +kernel
theorem dX5_beatEnd_24 : decode cX5_beatEnd 24 = .ok (.lreturn, 1) := by decide +kernel
theorem dX5_nextMoment_0 : decode cX5_nextMoment 0 = .ok (.ldc2_w 244, 3) := by decide +kernel
theorem dX5_nextMoment_3 : decode cX5_nextMoment 3 = .ok (.lstore_n 1, 1) := by decide +kernel
theorem dX5_nextMoment_4 : decode cX5_nextMoment 4 = .ok (.aload_n 0, 1) := by decide +kernel
theorem dX5_nextMoment_5 : decode cX5_nextMoment 5 = .ok (.getfield 19, 3) := by decide +kernel
theorem dX5_nextMoment_8 : decode cX5_nextMoment 8 = .ok (.getfield 175, 3) := by decide +kernel
theorem dX5_nextMoment_11 : decode cX5_nextMoment 11 = .ok (.iconst (-1), 1) := by decide +kernel
theorem dX5_nextMoment_12 : decode cX5_nextMoment 12 = .ok (.if_icmp .eq 8, 3) := by decide +kernel
theorem dX5_nextMoment_15 : decode cX5_nextMoment 15 = .ok (.aload_n 0, 1) := by decide +kernel
theorem dX5_nextMoment_16 : decode cX5_nextMoment 16 = .ok (.invokevirtual 178, 3) := by decide +kernel
theorem dX5_nextMoment_19 : decode cX5_nextMoment 19 = .ok (.lstore_n 1, 1) := by decide +kernel
theorem dX5_nextMoment_20 : decode cX5_nextMoment 20 = .ok (.aload_n 0, 1) := by decide +kernel
theorem dX5_nextMoment_21 : decode cX5_nextMoment 21 = .ok (.getfield 19, 3) := by decide +kernel
theorem dX5_nextMoment_24 : decode cX5_nextMoment 24 = .ok (.getfield 166, 3) := by decide +kernel
theorem dX5_nextMoment_27 : decode cX5_nextMoment 27 = .ok (.iconst (-1), 1) := by decide +kernel
theorem dX5_nextMoment_28 : decode cX5_nextMoment 28 = .ok (.if_icmp .eq 15, 3) := by decide +kernel
theorem dX5_nextMoment_31 : decode cX5_nextMoment 31 = .ok (.lload_n 1, 1) := by decide +kernel
theorem dX5_nextMoment_32 : decode cX5_nextMoment 32 = .ok (.aload_n 0, 1) := by decide +kernel
theorem dX5_nextMoment_33 : decode cX5_nextMoment 33 = .ok (.getfield 19, 3) := by decide +kernel
theorem dX5_nextMoment_36 : decode cX5_nextMoment 36 = .ok (.getfield 169, 3) := by decide +kernel
theorem dX5_nextMoment_39 : decode cX5_nextMoment 39 = .ok (.invokestatic 246, 3) := by decide +kernel
theorem dX5_nextMoment_42 : decode cX5_nextMoment 42 = .ok (.lstore_n 1, 1) := by decide +kernel
theorem dX5_nextMoment_43 : decode cX5_nextMoment 43 = .ok (.lload_n 1, 1) := by decide +kernel
theorem dX5_nextMoment_44 : decode cX5_nextMoment 44 = .ok (.lreturn, 1) := by decide +kernel
theorem dX5_endBeat_0 : decode cX5_endBeat 0 = .ok (.aload_n 0, 1) := by decide +kernel
theorem dX5_endBeat_1 : decode cX5_endBeat 1 = .ok (.getfield 19, 3) := by decide +kernel
theorem dX5_endBeat_4 : decode cX5_endBeat 4 = .ok (.dup, 1) := by decide +kernel
theorem dX5_endBeat_5 : decode cX5_endBeat 5 = .ok (.getfield 184, 3) := by decide +kernel
theorem dX5_endBeat_8 : decode cX5_endBeat 8 = .ok (.iconst 1, 1) := by decide +kernel
theorem dX5_endBeat_9 : decode cX5_endBeat 9 = .ok (.iadd, 1) := by decide +kernel
theorem dX5_endBeat_10 : decode cX5_endBeat 10 = .ok (.putfield 184, 3) := by decide +kernel
theorem dX5_endBeat_13 : decode cX5_endBeat 13 = .ok (.aload_n 0, 1) := by decide +kernel
theorem dX5_endBeat_14 : decode cX5_endBeat 14 = .ok (.getfield 19, 3) := by decide +kernel
theorem dX5_endBeat_17 : decode cX5_endBeat 17 = .ok (.aload_n 0, 1) := by decide +kernel
theorem dX5_endBeat_18 : decode cX5_endBeat 18 = .ok (.getfield 19, 3) := by decide +kernel
theorem dX5_endBeat_21 : decode cX5_endBeat 21 = .ok (.getfield 159, 3) := by decide +kernel
theorem dX5_endBeat_24 : decode cX5_endBeat 24 = .ok (.putfield 238, 3) := by decide +kernel
theorem dX5_endBeat_27 : decode cX5_endBeat 27 = .ok (.aload_n 0, 1) := by decide +kernel
theorem dX5_endBeat_28 : decode cX5_endBeat 28 = .ok (.getfield 19, 3) := by decide +kernel
theorem dX5_endBeat_31 : decode cX5_endBeat 31 = .ok (.getfield 184, 3) := by decide +kernel
theorem dX5_endBeat_34 : decode cX5_endBeat 34 = .ok (.aload_n 0, 1) := by decide +kernel
theorem dX5_endBeat_35 : decode cX5_endBeat 35 = .ok (.getfield 12, 3) := by decide +kernel
theorem dX5_endBeat_38 : decode cX5_endBeat 38 = .ok (.getfield 252, 3) := by decide +kernel
theorem dX5_endBeat_41 : decode cX5_endBeat 41 = .ok (.aload_n 0, 1) := by decide +kernel
theorem dX5_endBeat_42 : decode cX5_endBeat 42 = .ok (.getfield 19, 3) := by decide +kernel
theorem dX5_endBeat_45 : decode cX5_endBeat 45 = .ok (.getfield 175, 3) := by decide +kernel
theorem dX5_endBeat_48 : decode cX5_endBeat 48 = .ok (.iaload, 1) := by decide +kernel
theorem dX5_endBeat_49 : decode cX5_endBeat 49 = .ok (.if_icmp .lt 7, 3) := by decide +kernel
theorem dX5_endBeat_52 : decode cX5_endBeat 52 = .ok (.iconst 1, 1) := by decide +kernel
theorem dX5_endBeat_53 : decode cX5_endBeat 53 = .ok (.goto 4, 3) := by decide +kernel
theorem dX5_endBeat_56 : decode cX5_endBeat 56 = .ok (.iconst 0, 1) := by decide +kernel
theorem dX5_endBeat_57 : decode cX5_endBeat 57 = .ok (.istore_n 1, 1) := by decide +kernel
theorem dX5_endBeat_58 : decode cX5_endBeat 58 = .ok (.aload_n 0, 1) := by decide +kernel
theorem dX5_endBeat_59 : decode cX5_endBeat 59 = .ok (.getfield 48, 3) := by decide +kernel
theorem dX5_endBeat_62 : decode cX5_endBeat 62 = .ok (.iconst 0, 1) := by decide +kernel
theorem dX5_endBeat_63 : decode cX5_endBeat 63 = .ok (.invokevirtual 118, 3) := by decide +kernel
theorem dX5_endBeat_66 : decode cX5_endBeat 66 = .ok (.istore_n 2, 1) := by decide +kernel
theorem dX5_endBeat_67 : decode cX5_endBeat 67 = .ok (.aload_n 0, 1) := by decide +kernel
theorem dX5_endBeat_68 : decode cX5_endBeat 68 = .ok (.iload_n 2, 1) := by decide +kernel
theorem dX5_endBeat_69 : decode cX5_endBeat 69 = .ok (.iload_n 1, 1) := by decide +kernel
theorem dX5_endBeat_70 : decode cX5_endBeat 70 = .ok (.invokevirtual 255, 3) := by decide +kernel
theorem dX5_endBeat_73 : decode cX5_endBeat 73 = .ok (.ifCond .eq 19, 3) := by decide +kernel
theorem dX5_endBeat_76 : decode cX5_endBeat 76 = .ok (.aload_n 0, 1) := by decide +kernel
theorem dX5_endBeat_77 : decode cX5_endBeat 77 = .ok (.getfield 48, 3) := by decide +kernel
theorem dX5_endBeat_80 : decode cX5_endBeat 80 = .ok (.invokevirtual 259, 3) := by decide +kernel
theorem dX5_endBeat_83 : decode cX5_endBeat 83 = .ok (.aload_n 0, 1) := by decide +kernel
theorem dX5_endBeat_84 : decode cX5_endBeat 84 = .ok (.iload_n 2, 1) := by decide +kernel
theorem dX5_endBeat_85 : decode cX5_endBeat 85 = .ok (.iconst 1, 1) := by decide +kernel
theorem dX5_endBeat_86 : decode cX5_endBeat 86 = .ok (.invokevirtual 262, 3) := by decide +kernel
theorem dX5_endBeat_89 : decode cX5_endBeat 89 = .ok (.goto 11, 3) := by decide +kernel
theorem dX5_endBeat_92 : decode cX5_endBeat 92 = .ok (.iload_n 1, 1) := by decide +kernel
theorem dX5_endBeat_93 : decode cX5_endBeat 93 = .ok (.ifCond .eq 7, 3) := by decide +kernel
theorem dX5_endBeat_96 : decode cX5_endBeat 96 = .ok (.aload_n 0, 1) := by decide +kernel
theorem dX5_endBeat_97 : decode cX5_endBeat 97 = .ok (.invokevirtual 265, 3) := by decide +kernel
theorem dX5_endBeat_100 : decode cX5_endBeat 100 = .ok (.aload_n 0, 1) := by decide +kernel
theorem dX5_endBeat_101 : decode cX5_endBeat 101 = .ok (.invokevirtual 268, 3) := by decide +kernel
theorem dX5_endBeat_104 : decode cX5_endBeat 104 = .ok (.aload_n 0, 1) := by decide +kernel
theorem dX5_endBeat_105 : decode cX5_endBeat 105 = .ok (.invokevirtual 271, 3) := by decide +kernel
theorem dX5_endBeat_108 : decode cX5_endBeat 108 = .ok (.return_, 1) := by decide +kernel
theorem dX5_isDue_0 : decode cX5_isDue 0 = .ok (.iload_n 1, 1) := by decide +kernel
theorem dX5_isDue_1 : decode cX5_isDue 1 = .ok (.iconst (-1), 1) := by decide +kernel
theorem dX5_isDue_2 : decode cX5_isDue 2 = .ok (.if_icmp .eq 9, 3) := by decide +kernel
theorem dX5_isDue_5 : decode cX5_isDue 5 = .ok (.iload_n 1, 1) := by decide +kernel
theorem dX5_isDue_6 : decode cX5_isDue 6 = .ok (.bipush 100, 2) := by decide +kernel
theorem dX5_isDue_8 : decode cX5_isDue 8 = .ok (.if_icmp .ne 19, 3) := by decide +kernel
theorem dX5_isDue_11 : decode cX5_isDue 11 = .ok (.iload_n 1, 1) := by decide +kernel
theorem dX5_isDue_12 : decode cX5_isDue 12 = .ok (.bipush 100, 2) := by decide +kernel
theorem dX5_isDue_14 : decode cX5_isDue 14 = .ok (.if_icmp .ne 11, 3) := by decide +kernel
theorem dX5_isDue_17 : decode cX5_isDue 17 = .ok (.iload_n 2, 1) := by decide +kernel
theorem dX5_isDue_18 : decode cX5_isDue 18 = .ok (.ifCond .eq 7, 3) := by decide +kernel
theorem dX5_isDue_21 : decode cX5_isDue 21 = .ok (.iconst 1, 1) := by decide +kernel
theorem dX5_isDue_22 : decode cX5_isDue 22 = .ok (.goto 4, 3) := by decide +kernel
theorem dX5_isDue_25 : decode cX5_isDue 25 = .ok (.iconst 0, 1) := by decide +kernel
theorem dX5_isDue_26 : decode cX5_isDue 26 = .ok (.ireturn, 1) := by decide +kernel
theorem dX5_isDue_27 : decode cX5_isDue 27 = .ok (.aload_n 0, 1) := by decide +kernel
theorem dX5_isDue_28 : decode cX5_isDue 28 = .ok (.getfield 12, 3) := by decide +kernel
theorem dX5_isDue_31 : decode cX5_isDue 31 = .ok (.getfield 274, 3) := by decide +kernel
theorem dX5_isDue_34 : decode cX5_isDue 34 = .ok (.iload_n 1, 1) := by decide +kernel
theorem dX5_isDue_35 : decode cX5_isDue 35 = .ok (.iaload, 1) := by decide +kernel
theorem dX5_isDue_36 : decode cX5_isDue 36 = .ok (.aload_n 0, 1) := by decide +kernel
theorem dX5_isDue_37 : decode cX5_isDue 37 = .ok (.getfield 19, 3) := by decide +kernel
theorem dX5_isDue_40 : decode cX5_isDue 40 = .ok (.getfield 184, 3) := by decide +kernel
theorem dX5_isDue_43 : decode cX5_isDue 43 = .ok (.if_icmp .ne 7, 3) := by decide +kernel
theorem dX5_isDue_46 : decode cX5_isDue 46 = .ok (.iconst 1, 1) := by decide +kernel
theorem dX5_isDue_47 : decode cX5_isDue 47 = .ok (.goto 4, 3) := by decide +kernel
theorem dX5_isDue_50 : decode cX5_isDue 50 = .ok (.iconst 0, 1) := by decide +kernel
theorem dX5_isDue_51 : decode cX5_isDue 51 = .ok (.ireturn, 1) := by decide +kernel
theorem dX5_endPiece_0 : decode cX5_endPiece 0 = .ok (.aload_n 0, 1) := by decide +kernel
theorem dX5_endPiece_1 : decode cX5_endPiece 1 = .ok (.invokevirtual 277, 3) := by decide +kernel
theorem dX5_endPiece_4 : decode cX5_endPiece 4 = .ok (.istore_n 1, 1) := by decide +kernel
theorem dX5_endPiece_5 : decode cX5_endPiece 5 = .ok (.iload_n 1, 1) := by decide +kernel
theorem dX5_endPiece_6 : decode cX5_endPiece 6 = .ok (.iconst (-1), 1) := by decide +kernel
theorem dX5_endPiece_7 : decode cX5_endPiece 7 = .ok (.if_icmp .ne 10, 3) := by decide +kernel
theorem dX5_endPiece_10 : decode cX5_endPiece 10 = .ok (.aload_n 0, 1) := by decide +kernel
theorem dX5_endPiece_11 : decode cX5_endPiece 11 = .ok (.invokevirtual 280, 3) := by decide +kernel
theorem dX5_endPiece_14 : decode cX5_endPiece 14 = .ok (.goto 9, 3) := by decide +kernel
theorem dX5_endPiece_17 : decode cX5_endPiece 17 = .ok (.aload_n 0, 1) := by decide +kernel
theorem dX5_endPiece_18 : decode cX5_endPiece 18 = .ok (.iload_n 1, 1) := by decide +kernel
theorem dX5_endPiece_19 : decode cX5_endPiece 19 = .ok (.iconst 2, 1) := by decide +kernel
theorem dX5_endPiece_20 : decode cX5_endPiece 20 = .ok (.invokevirtual 262, 3) := by decide +kernel
theorem dX5_endPiece_23 : decode cX5_endPiece 23 = .ok (.aload_n 0, 1) := by decide +kernel
theorem dX5_endPiece_24 : decode cX5_endPiece 24 = .ok (.getfield 48, 3) := by decide +kernel
theorem dX5_endPiece_27 : decode cX5_endPiece 27 = .ok (.invokevirtual 89, 3) := by decide +kernel
theorem dX5_endPiece_30 : decode cX5_endPiece 30 = .ok (.return_, 1) := by decide +kernel
theorem dX5_stepAtEnd_0 : decode cX5_stepAtEnd 0 = .ok (.aload_n 0, 1) := by decide +kernel
theorem dX5_stepAtEnd_1 : decode cX5_stepAtEnd 1 = .ok (.getfield 19, 3) := by decide +kernel
theorem dX5_stepAtEnd_4 : decode cX5_stepAtEnd 4 = .ok (.getfield 175, 3) := by decide +kernel
theorem dX5_stepAtEnd_7 : decode cX5_stepAtEnd 7 = .ok (.istore_n 1, 1) := by decide +kernel
theorem dX5_stepAtEnd_8 : decode cX5_stepAtEnd 8 = .ok (.aload_n 0, 1) := by decide +kernel
theorem dX5_stepAtEnd_9 : decode cX5_stepAtEnd 9 = .ok (.getfield 12, 3) := by decide +kernel
theorem dX5_stepAtEnd_12 : decode cX5_stepAtEnd 12 = .ok (.iload_n 1, 1) := by decide +kernel
theorem dX5_stepAtEnd_13 : decode cX5_stepAtEnd 13 = .ok (.invokevirtual 283, 3) := by decide +kernel
theorem dX5_stepAtEnd_16 : decode cX5_stepAtEnd 16 = .ok (.istore_n 2, 1) := by decide +kernel
theorem dX5_stepAtEnd_17 : decode cX5_stepAtEnd 17 = .ok (.aload_n 0, 1) := by decide +kernel
theorem dX5_stepAtEnd_18 : decode cX5_stepAtEnd 18 = .ok (.getfield 19, 3) := by decide +kernel
theorem dX5_stepAtEnd_21 : decode cX5_stepAtEnd 21 = .ok (.getfield 187, 3) := by decide +kernel
theorem dX5_stepAtEnd_24 : decode cX5_stepAtEnd 24 = .ok (.aload_n 0, 1) := by decide +kernel
theorem dX5_stepAtEnd_25 : decode cX5_stepAtEnd 25 = .ok (.getfield 12, 3) := by decide +kernel
theorem dX5_stepAtEnd_28 : decode cX5_stepAtEnd 28 = .ok (.getfield 286, 3) := by decide +kernel
theorem dX5_stepAtEnd_31 : decode cX5_stepAtEnd 31 = .ok (.iload_n 1, 1) := by decide +kernel
theorem dX5_stepAtEnd_32 : decode cX5_stepAtEnd 32 = .ok (.iaload, 1) := by decide +kernel
theorem dX5_stepAtEnd_33 : decode cX5_stepAtEnd 33 = .ok (.if_icmp .lt 8, 3) := by decide +kernel
theorem dX5_stepAtEnd_36 : decode cX5_stepAtEnd 36 = .ok (.iload_n 2, 1) := by decide +kernel
theorem dX5_stepAtEnd_37 : decode cX5_stepAtEnd 37 = .ok (.iconst (-1), 1) := by decide +kernel
theorem dX5_stepAtEnd_38 : decode cX5_stepAtEnd 38 = .ok (.if_icmp .ne 7, 3) := by decide +kernel
theorem dX5_stepAtEnd_41 : decode cX5_stepAtEnd 41 = .ok (.iconst 1, 1) := by decide +kernel
theorem dX5_stepAtEnd_42 : decode cX5_stepAtEnd 42 = .ok (.goto 4, 3) := by decide +kernel
theorem dX5_stepAtEnd_45 : decode cX5_stepAtEnd 45 = .ok (.iconst 0, 1) := by decide +kernel
theorem dX5_stepAtEnd_46 : decode cX5_stepAtEnd 46 = .ok (.istore_n 3, 1) := by decide +kernel
theorem dX5_stepAtEnd_47 : decode cX5_stepAtEnd 47 = .ok (.aload_n 0, 1) := by decide +kernel
theorem dX5_stepAtEnd_48 : decode cX5_stepAtEnd 48 = .ok (.getfield 12, 3) := by decide +kernel
theorem dX5_stepAtEnd_51 : decode cX5_stepAtEnd 51 = .ok (.getfield 145, 3) := by decide +kernel
theorem dX5_stepAtEnd_54 : decode cX5_stepAtEnd 54 = .ok (.iload_n 1, 1) := by decide +kernel
theorem dX5_stepAtEnd_55 : decode cX5_stepAtEnd 55 = .ok (.iaload, 1) := by decide +kernel
theorem dX5_stepAtEnd_56 : decode cX5_stepAtEnd 56 = .ok (.ifCond .ne 12, 3) := by decide +kernel
theorem dX5_stepAtEnd_59 : decode cX5_stepAtEnd 59 = .ok (.iload_n 3, 1) := by decide +kernel
theorem dX5_stepAtEnd_60 : decode cX5_stepAtEnd 60 = .ok (.ifCond .eq 8, 3) := by decide +kernel
theorem dX5_stepAtEnd_63 : decode cX5_stepAtEnd 63 = .ok (.bipush 100, 2) := by decide +kernel
theorem dX5_stepAtEnd_65 : decode cX5_stepAtEnd 65 = .ok (.goto 4, 3) := by decide +kernel
theorem dX5_stepAtEnd_68 : decode cX5_stepAtEnd 68 = .ok (.iload_n 2, 1) := by decide +kernel
theorem dX5_stepAtEnd_69 : decode cX5_stepAtEnd 69 = .ok (.ireturn, 1) := by decide +kernel
theorem dX5_takeStep_0 : decode cX5_takeStep 0 = .ok (.aload_n 0, 1) := by decide +kernel
theorem dX5_takeStep_1 : decode cX5_takeStep 1 = .ok (.getfield 19, 3) := by decide +kernel
theorem dX5_takeStep_4 : decode cX5_takeStep 4 = .ok (.getfield 175, 3) := by decide +kernel
theorem dX5_takeStep_7 : decode cX5_takeStep 7 = .ok (.istore_n 3, 1) := by decide +kernel
theorem dX5_takeStep_8 : decode cX5_takeStep 8 = .ok (.iload_n 3, 1) := by decide +kernel
theorem dX5_takeStep_9 : decode cX5_takeStep 9 = .ok (.istore 4, 2) := by decide +kernel
theorem dX5_takeStep_11 : decode cX5_takeStep 11 = .ok (.iload_n 1, 1) := by decide +kernel
theorem dX5_takeStep_12 : decode cX5_takeStep 12 = .ok (.bipush 100, 2) := by decide +kernel
theorem dX5_takeStep_14 : decode cX5_takeStep 14 = .ok (.if_icmp .ne 15, 3) := by decide +kernel
theorem dX5_takeStep_17 : decode cX5_takeStep 17 = .ok (.aload_n 0, 1) := by decide +kernel
theorem dX5_takeStep_18 : decode cX5_takeStep 18 = .ok (.getfield 32, 3) := by decide +kernel
theorem dX5_takeStep_21 : decode cX5_takeStep 21 = .ok (.iconst 3, 1) := by decide +kernel
theorem dX5_takeStep_22 : decode cX5_takeStep 22 = .ok (.iload_n 3, 1) := by decide +kernel
theorem dX5_takeStep_23 : decode cX5_takeStep 23 = .ok (.invokevirtual 82, 3) := by decide +kernel
theorem dX5_takeStep_26 : decode cX5_takeStep 26 = .ok (.goto 23, 3) := by decide +kernel
theorem dX5_takeStep_29 : decode cX5_takeStep 29 = .ok (.aload_n 0, 1) := by decide +kernel
theorem dX5_takeStep_30 : decode cX5_takeStep 30 = .ok (.getfield 32, 3) := by decide +kernel
theorem dX5_takeStep_33 : decode cX5_takeStep 33 = .ok (.iload_n 2, 1) := by decide +kernel
theorem dX5_takeStep_34 : decode cX5_takeStep 34 = .ok (.iload_n 1, 1) := by decide +kernel
theorem dX5_takeStep_35 : decode cX5_takeStep 35 = .ok (.invokevirtual 82, 3) := by decide +kernel
theorem dX5_takeStep_38 : decode cX5_takeStep 38 = .ok (.aload_n 0, 1) := by decide +kernel
theorem dX5_takeStep_39 : decode cX5_takeStep 39 = .ok (.getfield 12, 3) := by decide +kernel
theorem dX5_takeStep_42 : decode cX5_takeStep 42 = .ok (.getfield 289, 3) := by decide +kernel
theorem dX5_takeStep_45 : decode cX5_takeStep 45 = .ok (.iload_n 1, 1) := by decide +kernel
theorem dX5_takeStep_46 : decode cX5_takeStep 46 = .ok (.iaload, 1) := by decide +kernel
theorem dX5_takeStep_47 : decode cX5_takeStep 47 = .ok (.istore 4, 2) := by decide +kernel
theorem dX5_takeStep_49 : decode cX5_takeStep 49 = .ok (.aload_n 0, 1) := by decide +kernel
theorem dX5_takeStep_50 : decode cX5_takeStep 50 = .ok (.iload 4, 2) := by decide +kernel
theorem dX5_takeStep_52 : decode cX5_takeStep 52 = .ok (.iload 4, 2) := by decide +kernel
theorem dX5_takeStep_54 : decode cX5_takeStep 54 = .ok (.iload_n 3, 1) := by decide +kernel
theorem dX5_takeStep_55 : decode cX5_takeStep 55 = .ok (.if_icmp .ne 15, 3) := by decide +kernel
theorem dX5_takeStep_58 : decode cX5_takeStep 58 = .ok (.aload_n 0, 1) := by decide +kernel
theorem dX5_takeStep_59 : decode cX5_takeStep 59 = .ok (.getfield 19, 3) := by decide +kernel
theorem dX5_takeStep_62 : decode cX5_takeStep 62 = .ok (.getfield 187, 3) := by decide +kernel
theorem dX5_takeStep_65 : decode cX5_takeStep 65 = .ok (.iconst 1, 1) := by decide +kernel
theorem dX5_takeStep_66 : decode cX5_takeStep 66 = .ok (.iadd, 1) := by decide +kernel
theorem dX5_takeStep_67 : decode cX5_takeStep 67 = .ok (.goto 4, 3) := by decide +kernel
theorem dX5_takeStep_70 : decode cX5_takeStep 70 = .ok (.iconst 1, 1) := by decide +kernel
theorem dX5_takeStep_71 : decode cX5_takeStep 71 = .ok (.invokevirtual 86, 3) := by decide +kernel
theorem dX5_takeStep_74 : decode cX5_takeStep 74 = .ok (.return_, 1) := by decide +kernel
theorem dX5_begin_0 : decode cX5_begin 0 = .ok (.aload_n 0, 1) := by decide +kernel
theorem dX5_begin_1 : decode cX5_begin 1 = .ok (.getfield 19, 3) := by decide +kernel
theorem dX5_begin_4 : decode cX5_begin 4 = .ok (.iload_n 1, 1) := by decide +kernel
theorem dX5_begin_5 : decode cX5_begin 5 = .ok (.putfield 175, 3) := by decide +kernel
theorem dX5_begin_8 : decode cX5_begin 8 = .ok (.aload_n 0, 1) := by decide +kernel
theorem dX5_begin_9 : decode cX5_begin 9 = .ok (.getfield 19, 3) := by decide +kernel
theorem dX5_begin_12 : decode cX5_begin 12 = .ok (.iload_n 2, 1) := by decide +kernel
theorem dX5_begin_13 : decode cX5_begin 13 = .ok (.putfield 187, 3) := by decide +kernel
theorem dX5_begin_16 : decode cX5_begin 16 = .ok (.aload_n 0, 1) := by decide +kernel
theorem dX5_begin_17 : decode cX5_begin 17 = .ok (.getfield 19, 3) := by decide +kernel
theorem dX5_begin_20 : decode cX5_begin 20 = .ok (.iconst 0, 1) := by decide +kernel
theorem dX5_begin_21 : decode cX5_begin 21 = .ok (.putfield 184, 3) := by decide +kernel
theorem dX5_begin_24 : decode cX5_begin 24 = .ok (.aload_n 0, 1) := by decide +kernel
theorem dX5_begin_25 : decode cX5_begin 25 = .ok (.getfield 19, 3) := by decide +kernel
theorem dX5_begin_28 : decode cX5_begin 28 = .ok (.aload_n 0, 1) := by decide +kernel
theorem dX5_begin_29 : decode cX5_begin 29 = .ok (.getfield 19, 3) := by decide +kernel
theorem dX5_begin_32 : decode cX5_begin 32 = .ok (.getfield 159, 3) := by decide +kernel
theorem dX5_begin_35 : decode cX5_begin 35 = .ok (.putfield 238, 3) := by decide +kernel
theorem dX5_begin_38 : decode cX5_begin 38 = .ok (.aload_n 0, 1) := by decide +kernel
theorem dX5_begin_39 : decode cX5_begin 39 = .ok (.invokevirtual 99, 3) := by decide +kernel
theorem dX5_begin_42 : decode cX5_begin 42 = .ok (.pop, 1) := by decide +kernel
theorem dX5_begin_43 : decode cX5_begin 43 = .ok (.return_, 1) := by decide +kernel
theorem dX5_meetMood_0 : decode cX5_meetMood 0 = .ok (.aload_n 0, 1) := by decide +kernel
theorem dX5_meetMood_1 : decode cX5_meetMood 1 = .ok (.getfield 19, 3) := by decide +kernel
theorem dX5_meetMood_4 : decode cX5_meetMood 4 = .ok (.getfield 175, 3) := by decide +kernel
theorem dX5_meetMood_7 : decode cX5_meetMood 7 = .ok (.iconst (-1), 1) := by decide +kernel
theorem dX5_meetMood_8 : decode cX5_meetMood 8 = .ok (.if_icmp .eq 38, 3) := by decide +kernel
theorem dX5_meetMood_11 : decode cX5_meetMood 11 = .ok (.aload_n 0, 1) := by decide +kernel
theorem dX5_meetMood_12 : decode cX5_meetMood 12 = .ok (.getfield 19, 3) := by decide +kernel
theorem dX5_meetMood_15 : decode cX5_meetMood 15 = .ok (.getfield 95, 3) := by decide +kernel
theorem dX5_meetMood_18 : decode cX5_meetMood 18 = .ok (.iconst (-1), 1) := by decide +kernel
theorem dX5_meetMood_19 : decode cX5_meetMood 19 = .ok (.if_icmp .eq 27, 3) := by decide +kernel
theorem dX5_meetMood_22 : decode cX5_meetMood 22 = .ok (.aload_n 0, 1) := by decide +kernel
theorem dX5_meetMood_23 : decode cX5_meetMood 23 = .ok (.getfield 12, 3) := by decide +kernel
theorem dX5_meetMood_26 : decode cX5_meetMood 26 = .ok (.aload_n 0, 1) := by decide +kernel
theorem dX5_meetMood_27 : decode cX5_meetMood 27 = .ok (.getfield 19, 3) := by decide +kernel
theorem dX5_meetMood_30 : decode cX5_meetMood 30 = .ok (.getfield 175, 3) := by decide +kernel
theorem dX5_meetMood_33 : decode cX5_meetMood 33 = .ok (.aload_n 0, 1) := by decide +kernel
theorem dX5_meetMood_34 : decode cX5_meetMood 34 = .ok (.getfield 19, 3) := by decide +kernel
theorem dX5_meetMood_37 : decode cX5_meetMood 37 = .ok (.getfield 95, 3) := by decide +kernel
theorem dX5_meetMood_40 : decode cX5_meetMood 40 = .ok (.invokevirtual 292, 3) := by decide +kernel
theorem dX5_meetMood_43 : decode cX5_meetMood 43 = .ok (.ifCond .ne 5, 3) := by decide +kernel
theorem dX5_meetMood_46 : decode cX5_meetMood 46 = .ok (.iconst 0, 1) := by decide +kernel
theorem dX5_meetMood_47 : decode cX5_meetMood 47 = .ok (.ireturn, 1) := by decide +kernel
theorem dX5_meetMood_48 : decode cX5_meetMood 48 = .ok (.aload_n 0, 1) := by decide +kernel
theorem dX5_meetMood_49 : decode cX5_meetMood 49 = .ok (.getfield 32, 3) := by decide +kernel
theorem dX5_meetMood_52 : decode cX5_meetMood 52 = .ok (.iconst 4, 1) := by decide +kernel
theorem dX5_meetMood_53 : decode cX5_meetMood 53 = .ok (.aload_n 0, 1) := by decide +kernel
theorem dX5_meetMood_54 : decode cX5_meetMood 54 = .ok (.getfield 19, 3) := by decide +kernel
theorem dX5_meetMood_57 : decode cX5_meetMood 57 = .ok (.getfield 95, 3) := by decide +kernel
theorem dX5_meetMood_60 : decode cX5_meetMood 60 = .ok (.invokevirtual 82, 3) := by decide +kernel
theorem dX5_meetMood_63 : decode cX5_meetMood 63 = .ok (.aload_n 0, 1) := by decide +kernel
theorem dX5_meetMood_64 : decode cX5_meetMood 64 = .ok (.getfield 19, 3) := by decide +kernel
theorem dX5_meetMood_67 : decode cX5_meetMood 67 = .ok (.iconst (-1), 1) := by decide +kernel
theorem dX5_meetMood_68 : decode cX5_meetMood 68 = .ok (.putfield 95, 3) := by decide +kernel
theorem dX5_meetMood_71 : decode cX5_meetMood 71 = .ok (.aload_n 0, 1) := by decide +kernel
theorem dX5_meetMood_72 : decode cX5_meetMood 72 = .ok (.getfield 48, 3) := by decide +kernel
theorem dX5_meetMood_75 : decode cX5_meetMood 75 = .ok (.invokevirtual 107, 3) := by decide +kernel
theorem dX5_meetMood_78 : decode cX5_meetMood 78 = .ok (.iconst 1, 1) := by decide +kernel
theorem dX5_meetMood_79 : decode cX5_meetMood 79 = .ok (.ireturn, 1) := by decide +kernel
theorem dX5_fallSilent_0 : decode cX5_fallSilent 0 = .ok (.aload_n 0, 1) := by decide +kernel
theorem dX5_fallSilent_1 : decode cX5_fallSilent 1 = .ok (.getfield 32, 3) := by decide +kernel
theorem dX5_fallSilent_4 : decode cX5_fallSilent 4 = .ok (.bipush 7, 2) := by decide +kernel
theorem dX5_fallSilent_6 : decode cX5_fallSilent 6 = .ok (.aload_n 0, 1) := by decide +kernel
theorem dX5_fallSilent_7 : decode cX5_fallSilent 7 = .ok (.getfield 19, 3) := by decide +kernel
theorem dX5_fallSilent_10 : decode cX5_fallSilent 10 = .ok (.getfield 175, 3) := by decide +kernel
theorem dX5_fallSilent_13 : decode cX5_fallSilent 13 = .ok (.invokevirtual 82, 3) := by decide +kernel
theorem dX5_fallSilent_16 : decode cX5_fallSilent 16 = .ok (.aload_n 0, 1) := by decide +kernel
theorem dX5_fallSilent_17 : decode cX5_fallSilent 17 = .ok (.getfield 19, 3) := by decide +kernel
theorem dX5_fallSilent_20 : decode cX5_fallSilent 20 = .ok (.iconst (-1), 1) := by decide +kernel
theorem dX5_fallSilent_21 : decode cX5_fallSilent 21 = .ok (.putfield 175, 3) := by decide +kernel
theorem dX5_fallSilent_24 : decode cX5_fallSilent 24 = .ok (.aload_n 0, 1) := by decide +kernel
theorem dX5_fallSilent_25 : decode cX5_fallSilent 25 = .ok (.getfield 19, 3) := by decide +kernel
theorem dX5_fallSilent_28 : decode cX5_fallSilent 28 = .ok (.iconst 0, 1) := by decide +kernel
theorem dX5_fallSilent_29 : decode cX5_fallSilent 29 = .ok (.putfield 187, 3) := by decide +kernel
theorem dX5_fallSilent_32 : decode cX5_fallSilent 32 = .ok (.aload_n 0, 1) := by decide +kernel
theorem dX5_fallSilent_33 : decode cX5_fallSilent 33 = .ok (.getfield 19, 3) := by decide +kernel
theorem dX5_fallSilent_36 : decode cX5_fallSilent 36 = .ok (.iconst 0, 1) := by decide +kernel
theorem dX5_fallSilent_37 : decode cX5_fallSilent 37 = .ok (.putfield 184, 3) := by decide +kernel
theorem dX5_fallSilent_40 : decode cX5_fallSilent 40 = .ok (.return_, 1) := by decide +kernel
theorem dX5_moveLayers_0 : decode cX5_moveLayers 0 = .ok (.aload_n 0, 1) := by decide +kernel
theorem dX5_moveLayers_1 : decode cX5_moveLayers 1 = .ok (.getfield 19, 3) := by decide +kernel
theorem dX5_moveLayers_4 : decode cX5_moveLayers 4 = .ok (.getfield 175, 3) := by decide +kernel
theorem dX5_moveLayers_7 : decode cX5_moveLayers 7 = .ok (.iconst (-1), 1) := by decide +kernel
theorem dX5_moveLayers_8 : decode cX5_moveLayers 8 = .ok (.if_icmp .ne 15, 3) := by decide +kernel
theorem dX5_moveLayers_11 : decode cX5_moveLayers 11 = .ok (.aload_n 0, 1) := by decide +kernel
theorem dX5_moveLayers_12 : decode cX5_moveLayers 12 = .ok (.getfield 19, 3) := by decide +kernel
theorem dX5_moveLayers_15 : decode cX5_moveLayers 15 = .ok (.getfield 207, 3) := by decide +kernel
theorem dX5_moveLayers_18 : decode cX5_moveLayers 18 = .ok (.iconst 0, 1) := by decide +kernel
theorem dX5_moveLayers_19 : decode cX5_moveLayers 19 = .ok (.invokestatic 296, 3) := by decide +kernel
theorem dX5_moveLayers_22 : decode cX5_moveLayers 22 = .ok (.return_, 1) := by decide +kernel
theorem dX5_moveLayers_23 : decode cX5_moveLayers 23 = .ok (.aload_n 0, 1) := by decide +kernel
theorem dX5_moveLayers_24 : decode cX5_moveLayers 24 = .ok (.getfield 19, 3) := by decide +kernel
theorem dX5_moveLayers_27 : decode cX5_moveLayers 27 = .ok (.invokevirtual 193, 3) := by decide +kernel
theorem dX5_moveLayers_30 : decode cX5_moveLayers 30 = .ok (.istore_n 1, 1) := by decide +kernel
theorem dX5_moveLayers_31 : decode cX5_moveLayers 31 = .ok (.iconst 0, 1) := by decide +kernel
theorem dX5_moveLayers_32 : decode cX5_moveLayers 32 = .ok (.istore_n 2, 1) := by decide +kernel
theorem dX5_moveLayers_33 : decode cX5_moveLayers 33 = .ok (.iload_n 2, 1) := by decide +kernel
theorem dX5_moveLayers_34 : decode cX5_moveLayers 34 = .ok (.aload_n 0, 1) := by decide +kernel
theorem dX5_moveLayers_35 : decode cX5_moveLayers 35 = .ok (.getfield 12, 3) := by decide +kernel
theorem dX5_moveLayers_38 : decode cX5_moveLayers 38 = .ok (.getfield 199, 3) := by decide +kernel
theorem dX5_moveLayers_41 : decode cX5_moveLayers 41 = .ok (.if_icmp .ge 52, 3) := by decide +kernel
theorem dX5_moveLayers_44 : decode cX5_moveLayers 44 = .ok (.aload_n 0, 1) := by decide +kernel
theorem dX5_moveLayers_45 : decode cX5_moveLayers 45 = .ok (.getfield 12, 3) := by decide +kernel
theorem dX5_moveLayers_48 : decode cX5_moveLayers 48 = .ok (.getfield 145, 3) := by decide +kernel
theorem dX5_moveLayers_51 : decode cX5_moveLayers 51 = .ok (.iload_n 2, 1) := by decide +kernel
theorem dX5_moveLayers_52 : decode cX5_moveLayers 52 = .ok (.iaload, 1) := by decide +kernel
theorem dX5_moveLayers_53 : decode cX5_moveLayers 53 = .ok (.iconst 2, 1) := by decide +kernel
theorem dX5_moveLayers_54 : decode cX5_moveLayers 54 = .ok (.if_icmp .ne 33, 3) := by decide +kernel
theorem dX5_moveLayers_57 : decode cX5_moveLayers 57 = .ok (.aload_n 0, 1) := by decide +kernel
theorem dX5_moveLayers_58 : decode cX5_moveLayers 58 = .ok (.getfield 12, 3) := by decide +kernel
theorem dX5_moveLayers_61 : decode cX5_moveLayers 61 = .ok (.aload_n 0, 1) := by decide +kernel
theorem dX5_moveLayers_62 : decode cX5_moveLayers 62 = .ok (.getfield 19, 3) := by decide +kernel
theorem dX5_moveLayers_65 : decode cX5_moveLayers 65 = .ok (.getfield 184, 3) := by decide +kernel
theorem dX5_moveLayers_68 : decode cX5_moveLayers 68 = .ok (.iload_n 2, 1) := by decide +kernel
theorem dX5_moveLayers_69 : decode cX5_moveLayers 69 = .ok (.invokevirtual 301, 3) := by decide +kernel
theorem dX5_moveLayers_72 : decode cX5_moveLayers 72 = .ok (.ifCond .eq 15, 3) := by decide +kernel
theorem dX5_moveLayers_75 : decode cX5_moveLayers 75 = .ok (.iload_n 1, 1) := by decide +kernel
theorem dX5_moveLayers_76 : decode cX5_moveLayers 76 = .ok (.aload_n 0, 1) := by decide +kernel
theorem dX5_moveLayers_77 : decode cX5_moveLayers 77 = .ok (.getfield 19, 3) := by decide +kernel
theorem dX5_moveLayers_80 : decode cX5_moveLayers 80 = .ok (.iload_n 2, 1) := by decide +kernel
theorem dX5_moveLayers_81 : decode cX5_moveLayers 81 = .ok (.iload_n 1, 1) := by decide +kernel
theorem dX5_moveLayers_82 : decode cX5_moveLayers 82 = .ok (.invokevirtual 304, 3) := by decide +kernel
theorem dX5_moveLayers_85 : decode cX5_moveLayers 85 = .ok (.iadd, 1) := by decide +kernel
theorem dX5_moveLayers_86 : decode cX5_moveLayers 86 = .ok (.istore_n 1, 1) := by decide +kernel
theorem dX5_moveLayers_87 : decode cX5_moveLayers 87 = .ok (.iinc 2 1, 3) := by decide +kernel
theorem dX5_moveLayers_90 : decode cX5_moveLayers 90 = .ok (.goto (-57), 3) := by decide +kernel
theorem dX5_moveLayers_93 : decode cX5_moveLayers 93 = .ok (.return_, 1) := by decide +kernel
theorem dX5_beginSting_0 : decode cX5_beginSting 0 = .ok (.aload_n 0, 1) := by decide +kernel
theorem dX5_beginSting_1 : decode cX5_beginSting 1 = .ok (.getfield 19, 3) := by decide +kernel
theorem dX5_beginSting_4 : decode cX5_beginSting 4 = .ok (.getfield 175, 3) := by decide +kernel
theorem dX5_beginSting_7 : decode cX5_beginSting 7 = .ok (.iconst (-1), 1) := by decide +kernel
theorem dX5_beginSting_8 : decode cX5_beginSting 8 = .ok (.if_icmp .eq 24, 3) := by decide +kernel
theorem dX5_beginSting_11 : decode cX5_beginSting 11 = .ok (.aload_n 0, 1) := by decide +kernel
theorem dX5_beginSting_12 : decode cX5_beginSting 12 = .ok (.getfield 19, 3) := by decide +kernel
theorem dX5_beginSting_15 : decode cX5_beginSting 15 = .ok (.getfield 166, 3) := by decide +kernel
theorem dX5_beginSting_18 : decode cX5_beginSting 18 = .ok (.iconst (-1), 1) := by decide +kernel
theorem dX5_beginSting_19 : decode cX5_beginSting 19 = .ok (.if_icmp .ne 13, 3) := by decide +kernel
theorem dX5_beginSting_22 : decode cX5_beginSting 22 = .ok (.aload_n 0, 1) := by decide +kernel
theorem dX5_beginSting_23 : decode cX5_beginSting 23 = .ok (.getfield 19, 3) := by decide +kernel
theorem dX5_beginSting_26 : decode cX5_beginSting 26 = .ok (.getfield 151, 3) := by decide +kernel
theorem dX5_beginSting_29 : decode cX5_beginSting 29 = .ok (.ifCond .ne 4, 3) := by decide +kernel
theorem dX5_beginSting_32 : decode cX5_beginSting 32 = .ok (.return_, 1) := by decide +kernel
theorem dX5_beginSting_33 : decode cX5_beginSting 33 = .ok (.aload_n 0, 1) := by decide +kernel
theorem dX5_beginSting_34 : decode cX5_beginSting 34 = .ok (.getfield 19, 3) := by decide +kernel
theorem dX5_beginSting_37 : decode cX5_beginSting 37 = .ok (.getfield 154, 3) := by decide +kernel
theorem dX5_beginSting_40 : decode cX5_beginSting 40 = .ok (.iconst 0, 1) := by decide +kernel
theorem dX5_beginSting_41 : decode cX5_beginSting 41 = .ok (.iaload, 1) := by decide +kernel
theorem dX5_beginSting_42 : decode cX5_beginSting 42 = .ok (.istore_n 1, 1) := by decide +kernel
theorem dX5_beginSting_43 : decode cX5_beginSting 43 = .ok (.aload_n 0, 1) := by decide +kernel
theorem dX5_beginSting_44 : decode cX5_beginSting 44 = .ok (.getfield 12, 3) := by decide +kernel
theorem dX5_beginSting_47 : decode cX5_beginSting 47 = .ok (.getfield 252, 3) := by decide +kernel
theorem dX5_beginSting_50 : decode cX5_beginSting 50 = .ok (.aload_n 0, 1) := by decide +kernel
theorem dX5_beginSting_51 : decode cX5_beginSting 51 = .ok (.getfield 19, 3) := by decide +kernel
theorem dX5_beginSting_54 : decode cX5_beginSting 54 = .ok (.getfield 175, 3) := by decide +kernel
theorem dX5_beginSting_57 : decode cX5_beginSting 57 = .ok (.iaload, 1) := by decide +kernel
theorem dX5_beginSting_58 : decode cX5_beginSting 58 = .ok (.aload_n 0, 1) := by decide +kernel
theorem dX5_beginSting_59 : decode cX5_beginSting 59 = .ok (.getfield 19, 3) := by decide +kernel
theorem dX5_beginSting_62 : decode cX5_beginSting 62 = .ok (.getfield 184, 3) := by decide +kernel
theorem dX5_beginSting_65 : decode cX5_beginSting 65 = .ok (.isub, 1) := by decide +kernel
theorem dX5_beginSting_66 : decode cX5_beginSting 66 = .ok (.aload_n 0, 1) := by decide +kernel
theorem dX5_beginSting_67 : decode cX5_beginSting 67 = .ok (.getfield 12, 3) := by decide +kernel
theorem dX5_beginSting_70 : decode cX5_beginSting 70 = .ok (.getfield 252, 3) := by decide +kernel
theorem dX5_beginSting_73 : decode cX5_beginSting 73 = .ok (.iload_n 1, 1) := by decide +kernel
theorem dX5_beginSting_74 : decode cX5_beginSting 74 = .ok (.iaload, 1) := by decide +kernel
theorem dX5_beginSting_75 : decode cX5_beginSting 75 = .ok (.if_icmp .ge 4, 3) := by decide +kernel
theorem dX5_beginSting_78 : decode cX5_beginSting 78 = .ok (.return_, 1) := by decide +kernel
theorem dX5_beginSting_79 : decode cX5_beginSting 79 = .ok (.aload_n 0, 1) := by decide +kernel
theorem dX5_beginSting_80 : decode cX5_beginSting 80 = .ok (.getfield 19, 3) := by decide +kernel
theorem dX5_beginSting_83 : decode cX5_beginSting 83 = .ok (.invokevirtual 308, 3) := by decide +kernel
theorem dX5_beginSting_86 : decode cX5_beginSting 86 = .ok (.aload_n 0, 1) := by decide +kernel
theorem dX5_beginSting_87 : decode cX5_beginSting 87 = .ok (.getfield 19, 3) := by decide +kernel
theorem dX5_beginSting_90 : decode cX5_beginSting 90 = .ok (.iload_n 1, 1) := by decide +kernel
theorem dX5_beginSting_91 : decode cX5_beginSting 91 = .ok (.putfield 166, 3) := by decide +kernel
theorem dX5_beginSting_94 : decode cX5_beginSting 94 = .ok (.aload_n 0, 1) := by decide +kernel
theorem dX5_beginSting_95 : decode cX5_beginSting 95 = .ok (.getfield 19, 3) := by decide +kernel
theorem dX5_beginSting_98 : decode cX5_beginSting 98 = .ok (.aload_n 0, 1) := by decide +kernel
theorem dX5_beginSting_99 : decode cX5_beginSting 99 = .ok (.getfield 19, 3) := by decide +kernel
theorem dX5_beginSting_102 : decode cX5_beginSting 102 = .ok (.getfield 159, 3) := by decide +kernel
theorem dX5_beginSting_105 : decode cX5_beginSting 105 = .ok (.aload_n 0, 1) := by decide +kernel
theorem dX5_beginSting_106 : decode cX5_beginSting 106 = .ok (.getfield 12, 3) := by decide +kernel
theorem dX5_beginSting_109 : decode cX5_beginSting 109 = .ok (.iload_n 1, 1) := by decide +kernel
theorem dX5_beginSting_110 : decode cX5_beginSting 110 = .ok (.invokevirtual 311, 3) := by decide +kernel
theorem dX5_beginSting_113 : decode cX5_beginSting 113 = .ok (.ladd, 1) := by decide +kernel
theorem dX5_beginSting_114 : decode cX5_beginSting 114 = .ok (.putfield 169, 3) := by decide +kernel
theorem dX5_beginSting_117 : decode cX5_beginSting 117 = .ok (.aload_n 0, 1) := by decide +kernel
theorem dX5_beginSting_118 : decode cX5_beginSting 118 = .ok (.getfield 32, 3) := by decide +kernel
theorem dX5_beginSting_121 : decode cX5_beginSting 121 = .ok (.iconst 5, 1) := by decide +kernel
theorem dX5_beginSting_122 : decode cX5_beginSting 122 = .ok (.iload_n 1, 1) := by decide +kernel
theorem dX5_beginSting_123 : decode cX5_beginSting 123 = .ok (.invokevirtual 82, 3) := by decide +kernel
theorem dX5_beginSting_126 : decode cX5_beginSting 126 = .ok (.return_, 1) := by decide +kernel
theorem dX5_endSting_0 : decode cX5_endSting 0 = .ok (.aload_n 0, 1) := by decide +kernel
theorem dX5_endSting_1 : decode cX5_endSting 1 = .ok (.getfield 32, 3) := by decide +kernel
theorem dX5_endSting_4 : decode cX5_endSting 4 = .ok (.bipush 6, 2) := by decide +kernel
theorem dX5_endSting_6 : decode cX5_endSting 6 = .ok (.aload_n 0, 1) := by decide +kernel
theorem dX5_endSting_7 : decode cX5_endSting 7 = .ok (.getfield 19, 3) := by decide +kernel
theorem dX5_endSting_10 : decode cX5_endSting 10 = .ok (.getfield 166, 3) := by decide +kernel
theorem dX5_endSting_13 : decode cX5_endSting 13 = .ok (.invokevirtual 82, 3) := by decide +kernel
theorem dX5_endSting_16 : decode cX5_endSting 16 = .ok (.aload_n 0, 1) := by decide +kernel
theorem dX5_endSting_17 : decode cX5_endSting 17 = .ok (.getfield 19, 3) := by decide +kernel
theorem dX5_endSting_20 : decode cX5_endSting 20 = .ok (.iconst (-1), 1) := by decide +kernel
theorem dX5_endSting_21 : decode cX5_endSting 21 = .ok (.putfield 166, 3) := by decide +kernel
theorem dX5_endSting_24 : decode cX5_endSting 24 = .ok (.return_, 1) := by decide +kernel
theorem dX6_init_0 : decode cX6_init 0 = .ok (.aload_n 0, 1) := by decide +kernel
theorem dX6_init_1 : decode cX6_init 1 = .ok (.invokespecial 1, 3) := by decide +kernel
theorem dX6_init_4 : decode cX6_init 4 = .ok (.aload_n 0, 1) := by decide +kernel
theorem dX6_init_5 : decode cX6_init 5 = .ok (.bipush 20, 2) := by decide +kernel
theorem dX6_init_7 : decode cX6_init 7 = .ok (.newarray .int, 2) := by decide +kernel
theorem dX6_init_9 : decode cX6_init 9 = .ok (.putfield 7, 3) := by decide +kernel
theorem dX6_init_12 : decode cX6_init 12 = .ok (.aload_n 0, 1) := by decide +kernel
theorem dX6_init_13 : decode cX6_init 13 = .ok (.bipush 20, 2) := by decide +kernel
theorem dX6_init_15 : decode cX6_init 15 = .ok (.newarray .int, 2) := by decide +kernel
theorem dX6_init_17 : decode cX6_init 17 = .ok (.putfield 13, 3) := by decide +kernel
theorem dX6_init_20 : decode cX6_init 20 = .ok (.aload_n 0, 1) := by decide +kernel
theorem dX6_init_21 : decode cX6_init 21 = .ok (.bipush 20, 2) := by decide +kernel
theorem dX6_init_23 : decode cX6_init 23 = .ok (.newarray .int, 2) := by decide +kernel
theorem dX6_init_25 : decode cX6_init 25 = .ok (.putfield 16, 3) := by decide +kernel
theorem dX6_init_28 : decode cX6_init 28 = .ok (.aload_n 0, 1) := by decide +kernel
theorem dX6_init_29 : decode cX6_init 29 = .ok (.bipush 20, 2) := by decide +kernel
theorem dX6_init_31 : decode cX6_init 31 = .ok (.newarray .int, 2) := by decide +kernel
theorem dX6_init_33 : decode cX6_init 33 = .ok (.putfield 19, 3) := by decide +kernel
theorem dX6_init_36 : decode cX6_init 36 = .ok (.aload_n 0, 1) := by decide +kernel
theorem dX6_init_37 : decode cX6_init 37 = .ok (.bipush 20, 2) := by decide +kernel
theorem dX6_init_39 : decode cX6_init 39 = .ok (.newarray .int, 2) := by decide +kernel
theorem dX6_init_41 : decode cX6_init 41 = .ok (.putfield 22, 3) := by decide +kernel
theorem dX6_init_44 : decode cX6_init 44 = .ok (.aload_n 0, 1) := by decide +kernel
theorem dX6_init_45 : decode cX6_init 45 = .ok (.bipush 100, 2) := by decide +kernel
theorem dX6_init_47 : decode cX6_init 47 = .ok (.newarray .int, 2) := by decide +kernel
theorem dX6_init_49 : decode cX6_init 49 = .ok (.putfield 25, 3) := by decide +kernel
theorem dX6_init_52 : decode cX6_init 52 = .ok (.aload_n 0, 1) := by decide +kernel
theorem dX6_init_53 : decode cX6_init 53 = .ok (.bipush 100, 2) := by decide +kernel
theorem dX6_init_55 : decode cX6_init 55 = .ok (.newarray .int, 2) := by decide +kernel
theorem dX6_init_57 : decode cX6_init 57 = .ok (.putfield 28, 3) := by decide +kernel
theorem dX6_init_60 : decode cX6_init 60 = .ok (.aload_n 0, 1) := by decide +kernel
theorem dX6_init_61 : decode cX6_init 61 = .ok (.bipush 100, 2) := by decide +kernel
theorem dX6_init_63 : decode cX6_init 63 = .ok (.newarray .int, 2) := by decide +kernel
theorem dX6_init_65 : decode cX6_init 65 = .ok (.putfield 31, 3) := by decide +kernel
theorem dX6_init_68 : decode cX6_init 68 = .ok (.aload_n 0, 1) := by decide +kernel
theorem dX6_init_69 : decode cX6_init 69 = .ok (.bipush 100, 2) := by decide +kernel
theorem dX6_init_71 : decode cX6_init 71 = .ok (.newarray .int, 2) := by decide +kernel
theorem dX6_init_73 : decode cX6_init 73 = .ok (.putfield 34, 3) := by decide +kernel
theorem dX6_init_76 : decode cX6_init 76 = .ok (.aload_n 0, 1) := by decide +kernel
theorem dX6_init_77 : decode cX6_init 77 = .ok (.iconst 2, 1) := by decide +kernel
theorem dX6_init_78 : decode cX6_init 78 = .ok (.newarray .int, 2) := by decide +kernel
theorem dX6_init_80 : decode cX6_init 80 = .ok (.dup, 1) := by decide +kernel
theorem dX6_init_81 : decode cX6_init 81 = .ok (.iconst 0, 1) := by decide +kernel
theorem dX6_init_82 : decode cX6_init 82 = .ok (.bipush 10, 2) := by decide +kernel
theorem dX6_init_84 : decode cX6_init 84 = .ok (.iastore, 1) := by decide +kernel
theorem dX6_init_85 : decode cX6_init 85 = .ok (.dup, 1) := by decide +kernel
theorem dX6_init_86 : decode cX6_init 86 = .ok (.iconst 1, 1) := by decide +kernel
theorem dX6_init_87 : decode cX6_init 87 = .ok (.iconst 1, 1) := by decide +kernel
theorem dX6_init_88 : decode cX6_init 88 = .ok (.iastore, 1) := by decide +kernel
theorem dX6_init_89 : decode cX6_init 89 = .ok (.putfield 37, 3) := by decide +kernel
