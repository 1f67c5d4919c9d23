theorem dX6_begins_20 : decode cX6_begins 20 = .ok (.lconst 0, 1) := by decide +kernel
theorem dX6_begins_21 : decode cX6_begins 21 = .ok (.lastore, 1) := by decide +kernel
theorem dX6_begins_22 : decode cX6_begins 22 = .ok (.aload_n 0, 1) := by decide +kernel
theorem dX6_begins_23 : decode cX6_begins 23 = .ok (.getfield 40, 3) := by decide +kernel
theorem dX6_begins_26 : decode cX6_begins 26 = .ok (.iconst 2, 1) := by decide +kernel
theorem dX6_begins_27 : decode cX6_begins 27 = .ok (.iload_n 2, 1) := by decide +kernel
theorem dX6_begins_28 : decode cX6_begins 28 = .ok (.i2l, 1) := by decide +kernel
theorem dX6_begins_29 : decode cX6_begins 29 = .ok (.lastore, 1) := by decide +kernel
theorem dX6_begins_30 : decode cX6_begins 30 = .ok (.aload_n 0, 1) := by decide +kernel
theorem dX6_begins_31 : decode cX6_begins 31 = .ok (.iconst 4, 1) := by decide +kernel
theorem dX6_begins_32 : decode cX6_begins 32 = .ok (.invokevirtual 126, 3) := by decide +kernel
theorem dX6_begins_35 : decode cX6_begins 35 = .ok (.iconst (-1), 1) := by decide +kernel
theorem dX6_begins_36 : decode cX6_begins 36 = .ok (.if_icmp .eq 23, 3) := by decide +kernel
theorem dX6_begins_39 : decode cX6_begins 39 = .ok (.aload_n 0, 1) := by decide +kernel
theorem dX6_begins_40 : decode cX6_begins 40 = .ok (.iload_n 1, 1) := by decide +kernel
theorem dX6_begins_41 : decode cX6_begins 41 = .ok (.aload_n 0, 1) := by decide +kernel
theorem dX6_begins_42 : decode cX6_begins 42 = .ok (.iconst 4, 1) := by decide +kernel
theorem dX6_begins_43 : decode cX6_begins 43 = .ok (.invokevirtual 126, 3) := by decide +kernel
theorem dX6_begins_46 : decode cX6_begins 46 = .ok (.invokevirtual 104, 3) := by decide +kernel
theorem dX6_begins_49 : decode cX6_begins 49 = .ok (.ifCond .eq 10, 3) := by decide +kernel
theorem dX6_begins_52 : decode cX6_begins 52 = .ok (.aload_n 0, 1) := by decide +kernel
theorem dX6_begins_53 : decode cX6_begins 53 = .ok (.invokevirtual 145, 3) := by decide +kernel
theorem dX6_begins_56 : decode cX6_begins 56 = .ok (.goto 11, 3) := by decide +kernel
theorem dX6_begins_59 : decode cX6_begins 59 = .ok (.iload_n 3, 1) := by decide +kernel
theorem dX6_begins_60 : decode cX6_begins 60 = .ok (.ifCond .ne 7, 3) := by decide +kernel
theorem dX6_begins_63 : decode cX6_begins 63 = .ok (.aload_n 0, 1) := by decide +kernel
theorem dX6_begins_64 : decode cX6_begins 64 = .ok (.invokevirtual 91, 3) := by decide +kernel
theorem dX6_begins_67 : decode cX6_begins 67 = .ok (.return_, 1) := by decide +kernel
theorem dX6_play_0 : decode cX6_play 0 = .ok (.aload_n 0, 1) := by decide +kernel
theorem dX6_play_1 : decode cX6_play 1 = .ok (.iconst 0, 1) := by decide +kernel
theorem dX6_play_2 : decode cX6_play 2 = .ok (.putfield 80, 3) := by decide +kernel
theorem dX6_play_5 : decode cX6_play 5 = .ok (.aload_n 0, 1) := by decide +kernel
theorem dX6_play_6 : decode cX6_play 6 = .ok (.iload_n 1, 1) := by decide +kernel
theorem dX6_play_7 : decode cX6_play 7 = .ok (.invokevirtual 94, 3) := by decide +kernel
theorem dX6_play_10 : decode cX6_play 10 = .ok (.ifCond .eq 11, 3) := by decide +kernel
theorem dX6_play_13 : decode cX6_play 13 = .ok (.aload_n 0, 1) := by decide +kernel
theorem dX6_play_14 : decode cX6_play 14 = .ok (.iload_n 1, 1) := by decide +kernel
theorem dX6_play_15 : decode cX6_play 15 = .ok (.invokevirtual 101, 3) := by decide +kernel
theorem dX6_play_18 : decode cX6_play 18 = .ok (.ifCond .ne 5, 3) := by decide +kernel
theorem dX6_play_21 : decode cX6_play 21 = .ok (.iconst 0, 1) := by decide +kernel
theorem dX6_play_22 : decode cX6_play 22 = .ok (.ireturn, 1) := by decide +kernel
theorem dX6_play_23 : decode cX6_play 23 = .ok (.aload_n 0, 1) := by decide +kernel
theorem dX6_play_24 : decode cX6_play 24 = .ok (.iconst 0, 1) := by decide +kernel
theorem dX6_play_25 : decode cX6_play 25 = .ok (.iload_n 1, 1) := by decide +kernel
theorem dX6_play_26 : decode cX6_play 26 = .ok (.invokevirtual 158, 3) := by decide +kernel
theorem dX6_play_29 : decode cX6_play 29 = .ok (.aload_n 0, 1) := by decide +kernel
theorem dX6_play_30 : decode cX6_play 30 = .ok (.iload_n 1, 1) := by decide +kernel
theorem dX6_play_31 : decode cX6_play 31 = .ok (.iconst 1, 1) := by decide +kernel
theorem dX6_play_32 : decode cX6_play 32 = .ok (.iconst 0, 1) := by decide +kernel
theorem dX6_play_33 : decode cX6_play 33 = .ok (.invokevirtual 161, 3) := by decide +kernel
theorem dX6_play_36 : decode cX6_play 36 = .ok (.iconst 1, 1) := by decide +kernel
theorem dX6_play_37 : decode cX6_play 37 = .ok (.ireturn, 1) := by decide +kernel
theorem dX6_takes_0 : decode cX6_takes 0 = .ok (.aload_n 0, 1) := by decide +kernel
theorem dX6_takes_1 : decode cX6_takes 1 = .ok (.iload_n 2, 1) := by decide +kernel
theorem dX6_takes_2 : decode cX6_takes 2 = .ok (.ifCond .eq 7, 3) := by decide +kernel
theorem dX6_takes_5 : decode cX6_takes 5 = .ok (.iconst 1, 1) := by decide +kernel
theorem dX6_takes_6 : decode cX6_takes 6 = .ok (.goto 4, 3) := by decide +kernel
theorem dX6_takes_9 : decode cX6_takes 9 = .ok (.iconst 2, 1) := by decide +kernel
theorem dX6_takes_10 : decode cX6_takes 10 = .ok (.iload_n 1, 1) := by decide +kernel
theorem dX6_takes_11 : decode cX6_takes 11 = .ok (.invokevirtual 158, 3) := by decide +kernel
theorem dX6_takes_14 : decode cX6_takes 14 = .ok (.aload_n 0, 1) := by decide +kernel
theorem dX6_takes_15 : decode cX6_takes 15 = .ok (.aload_n 0, 1) := by decide +kernel
theorem dX6_takes_16 : decode cX6_takes 16 = .ok (.getfield 31, 3) := by decide +kernel
theorem dX6_takes_19 : decode cX6_takes 19 = .ok (.iload_n 1, 1) := by decide +kernel
theorem dX6_takes_20 : decode cX6_takes 20 = .ok (.iaload, 1) := by decide +kernel
theorem dX6_takes_21 : decode cX6_takes 21 = .ok (.aload_n 0, 1) := by decide +kernel
theorem dX6_takes_22 : decode cX6_takes 22 = .ok (.getfield 31, 3) := by decide +kernel
theorem dX6_takes_25 : decode cX6_takes 25 = .ok (.iload_n 1, 1) := by decide +kernel
theorem dX6_takes_26 : decode cX6_takes 26 = .ok (.iaload, 1) := by decide +kernel
theorem dX6_takes_27 : decode cX6_takes 27 = .ok (.aload_n 0, 1) := by decide +kernel
theorem dX6_takes_28 : decode cX6_takes 28 = .ok (.iconst 0, 1) := by decide +kernel
theorem dX6_takes_29 : decode cX6_takes 29 = .ok (.invokevirtual 126, 3) := by decide +kernel
theorem dX6_takes_32 : decode cX6_takes 32 = .ok (.if_icmp .ne 13, 3) := by decide +kernel
theorem dX6_takes_35 : decode cX6_takes 35 = .ok (.aload_n 0, 1) := by decide +kernel
theorem dX6_takes_36 : decode cX6_takes 36 = .ok (.iconst 2, 1) := by decide +kernel
theorem dX6_takes_37 : decode cX6_takes 37 = .ok (.invokevirtual 126, 3) := by decide +kernel
theorem dX6_takes_40 : decode cX6_takes 40 = .ok (.iconst 1, 1) := by decide +kernel
theorem dX6_takes_41 : decode cX6_takes 41 = .ok (.iadd, 1) := by decide +kernel
theorem dX6_takes_42 : decode cX6_takes 42 = .ok (.goto 4, 3) := by decide +kernel
theorem dX6_takes_45 : decode cX6_takes 45 = .ok (.iconst 1, 1) := by decide +kernel
theorem dX6_takes_46 : decode cX6_takes 46 = .ok (.iload_n 2, 1) := by decide +kernel
theorem dX6_takes_47 : decode cX6_takes 47 = .ok (.invokevirtual 161, 3) := by decide +kernel
theorem dX6_takes_50 : decode cX6_takes 50 = .ok (.return_, 1) := by decide +kernel
theorem dX6_goesAgain_0 : decode cX6_goesAgain 0 = .ok (.aload_n 0, 1) := by decide +kernel
theorem dX6_goesAgain_1 : decode cX6_goesAgain 1 = .ok (.iconst 3, 1) := by decide +kernel
theorem dX6_goesAgain_2 : decode cX6_goesAgain 2 = .ok (.aload_n 0, 1) := by decide +kernel
theorem dX6_goesAgain_3 : decode cX6_goesAgain 3 = .ok (.iconst 0, 1) := by decide +kernel
theorem dX6_goesAgain_4 : decode cX6_goesAgain 4 = .ok (.invokevirtual 126, 3) := by decide +kernel
theorem dX6_goesAgain_7 : decode cX6_goesAgain 7 = .ok (.invokevirtual 158, 3) := by decide +kernel
theorem dX6_goesAgain_10 : decode cX6_goesAgain 10 = .ok (.aload_n 0, 1) := by decide +kernel
theorem dX6_goesAgain_11 : decode cX6_goesAgain 11 = .ok (.aload_n 0, 1) := by decide +kernel
theorem dX6_goesAgain_12 : decode cX6_goesAgain 12 = .ok (.iconst 0, 1) := by decide +kernel
theorem dX6_goesAgain_13 : decode cX6_goesAgain 13 = .ok (.invokevirtual 126, 3) := by decide +kernel
theorem dX6_goesAgain_16 : decode cX6_goesAgain 16 = .ok (.aload_n 0, 1) := by decide +kernel
theorem dX6_goesAgain_17 : decode cX6_goesAgain 17 = .ok (.iconst 2, 1) := by decide +kernel
theorem dX6_goesAgain_18 : decode cX6_goesAgain 18 = .ok (.invokevirtual 126, 3) := by decide +kernel
theorem dX6_goesAgain_21 : decode cX6_goesAgain 21 = .ok (.iconst 1, 1) := by decide +kernel
theorem dX6_goesAgain_22 : decode cX6_goesAgain 22 = .ok (.iadd, 1) := by decide +kernel
theorem dX6_goesAgain_23 : decode cX6_goesAgain 23 = .ok (.iload_n 1, 1) := by decide +kernel
theorem dX6_goesAgain_24 : decode cX6_goesAgain 24 = .ok (.invokevirtual 161, 3) := by decide +kernel
theorem dX6_goesAgain_27 : decode cX6_goesAgain 27 = .ok (.return_, 1) := by decide +kernel
theorem dX6_cheapest_0 : decode cX6_cheapest 0 = .ok (.iconst (-1), 1) := by decide +kernel
theorem dX6_cheapest_1 : decode cX6_cheapest 1 = .ok (.istore_n 2, 1) := by decide +kernel
theorem dX6_cheapest_2 : decode cX6_cheapest 2 = .ok (.iconst 0, 1) := by decide +kernel
theorem dX6_cheapest_3 : decode cX6_cheapest 3 = .ok (.istore_n 3, 1) := by decide +kernel
theorem dX6_cheapest_4 : decode cX6_cheapest 4 = .ok (.iload_n 3, 1) := by decide +kernel
theorem dX6_cheapest_5 : decode cX6_cheapest 5 = .ok (.aload_n 0, 1) := by decide +kernel
theorem dX6_cheapest_6 : decode cX6_cheapest 6 = .ok (.getfield 98, 3) := by decide +kernel
theorem dX6_cheapest_9 : decode cX6_cheapest 9 = .ok (.if_icmp .ge 56, 3) := by decide +kernel
theorem dX6_cheapest_12 : decode cX6_cheapest 12 = .ok (.aload_n 0, 1) := by decide +kernel
theorem dX6_cheapest_13 : decode cX6_cheapest 13 = .ok (.getfield 25, 3) := by decide +kernel
theorem dX6_cheapest_16 : decode cX6_cheapest 16 = .ok (.iload_n 3, 1) := by decide +kernel
theorem dX6_cheapest_17 : decode cX6_cheapest 17 = .ok (.iaload, 1) := by decide +kernel
theorem dX6_cheapest_18 : decode cX6_cheapest 18 = .ok (.iload_n 1, 1) := by decide +kernel
theorem dX6_cheapest_19 : decode cX6_cheapest 19 = .ok (.if_icmp .ne 40, 3) := by decide +kernel
theorem dX6_cheapest_22 : decode cX6_cheapest 22 = .ok (.aload_n 0, 1) := by decide +kernel
theorem dX6_cheapest_23 : decode cX6_cheapest 23 = .ok (.getfield 28, 3) := by decide +kernel
theorem dX6_cheapest_26 : decode cX6_cheapest 26 = .ok (.iload_n 3, 1) := by decide +kernel
theorem dX6_cheapest_27 : decode cX6_cheapest 27 = .ok (.iaload, 1) := by decide +kernel
theorem dX6_cheapest_28 : decode cX6_cheapest 28 = .ok (.aload_n 0, 1) := by decide +kernel
theorem dX6_cheapest_29 : decode cX6_cheapest 29 = .ok (.getfield 13, 3) := by decide +kernel
theorem dX6_cheapest_32 : decode cX6_cheapest 32 = .ok (.iload_n 1, 1) := by decide +kernel
theorem dX6_cheapest_33 : decode cX6_cheapest 33 = .ok (.iaload, 1) := by decide +kernel
theorem dX6_cheapest_34 : decode cX6_cheapest 34 = .ok (.if_icmp .ne 25, 3) := by decide +kernel
theorem dX6_cheapest_37 : decode cX6_cheapest 37 = .ok (.iload_n 2, 1) := by decide +kernel
theorem dX6_cheapest_38 : decode cX6_cheapest 38 = .ok (.iconst (-1), 1) := by decide +kernel
theorem dX6_cheapest_39 : decode cX6_cheapest 39 = .ok (.if_icmp .eq 18, 3) := by decide +kernel
theorem dX6_cheapest_42 : decode cX6_cheapest 42 = .ok (.aload_n 0, 1) := by decide +kernel
theorem dX6_cheapest_43 : decode cX6_cheapest 43 = .ok (.getfield 34, 3) := by decide +kernel
theorem dX6_cheapest_46 : decode cX6_cheapest 46 = .ok (.iload_n 3, 1) := by decide +kernel
theorem dX6_cheapest_47 : decode cX6_cheapest 47 = .ok (.iaload, 1) := by decide +kernel
theorem dX6_cheapest_48 : decode cX6_cheapest 48 = .ok (.aload_n 0, 1) := by decide +kernel
theorem dX6_cheapest_49 : decode cX6_cheapest 49 = .ok (.getfield 34, 3) := by decide +kernel
theorem dX6_cheapest_52 : decode cX6_cheapest 52 = .ok (.iload_n 2, 1) := by decide +kernel
theorem dX6_cheapest_53 : decode cX6_cheapest 53 = .ok (.iaload, 1) := by decide +kernel
theorem dX6_cheapest_54 : decode cX6_cheapest 54 = .ok (.if_icmp .ge 5, 3) := by decide +kernel
theorem dX6_cheapest_57 : decode cX6_cheapest 57 = .ok (.iload_n 3, 1) := by decide +kernel
theorem dX6_cheapest_58 : decode cX6_cheapest 58 = .ok (.istore_n 2, 1) := by decide +kernel
theorem dX6_cheapest_59 : decode cX6_cheapest 59 = .ok (.iinc 3 1, 3) := by decide +kernel
theorem dX6_cheapest_62 : decode cX6_cheapest 62 = .ok (.goto (-58), 3) := by decide +kernel
theorem dX6_cheapest_65 : decode cX6_cheapest 65 = .ok (.iload_n 2, 1) := by decide +kernel
theorem dX6_cheapest_66 : decode cX6_cheapest 66 = .ok (.ireturn, 1) := by decide +kernel
theorem dX6_silence_0 : decode cX6_silence 0 = .ok (.aload_n 0, 1) := by decide +kernel
theorem dX6_silence_1 : decode cX6_silence 1 = .ok (.bipush 7, 2) := by decide +kernel
theorem dX6_silence_3 : decode cX6_silence 3 = .ok (.aload_n 0, 1) := by decide +kernel
theorem dX6_silence_4 : decode cX6_silence 4 = .ok (.iconst 0, 1) := by decide +kernel
theorem dX6_silence_5 : decode cX6_silence 5 = .ok (.invokevirtual 126, 3) := by decide +kernel
theorem dX6_silence_8 : decode cX6_silence 8 = .ok (.invokevirtual 158, 3) := by decide +kernel
theorem dX6_silence_11 : decode cX6_silence 11 = .ok (.aload_n 0, 1) := by decide +kernel
theorem dX6_silence_12 : decode cX6_silence 12 = .ok (.getfield 40, 3) := by decide +kernel
theorem dX6_silence_15 : decode cX6_silence 15 = .ok (.iconst 0, 1) := by decide +kernel
theorem dX6_silence_16 : decode cX6_silence 16 = .ok (.ldc2_w 78, 3) := by decide +kernel
theorem dX6_silence_19 : decode cX6_silence 19 = .ok (.lastore, 1) := by decide +kernel
theorem dX6_silence_20 : decode cX6_silence 20 = .ok (.aload_n 0, 1) := by decide +kernel
theorem dX6_silence_21 : decode cX6_silence 21 = .ok (.getfield 40, 3) := by decide +kernel
theorem dX6_silence_24 : decode cX6_silence 24 = .ok (.iconst 1, 1) := by decide +kernel
theorem dX6_silence_25 : decode cX6_silence 25 = .ok (.lconst 0, 1) := by decide +kernel
theorem dX6_silence_26 : decode cX6_silence 26 = .ok (.lastore, 1) := by decide +kernel
theorem dX6_silence_27 : decode cX6_silence 27 = .ok (.aload_n 0, 1) := by decide +kernel
theorem dX6_silence_28 : decode cX6_silence 28 = .ok (.getfield 40, 3) := by decide +kernel
theorem dX6_silence_31 : decode cX6_silence 31 = .ok (.iconst 3, 1) := by decide +kernel
theorem dX6_silence_32 : decode cX6_silence 32 = .ok (.lconst 0, 1) := by decide +kernel
theorem dX6_silence_33 : decode cX6_silence 33 = .ok (.lastore, 1) := by decide +kernel
theorem dX6_silence_34 : decode cX6_silence 34 = .ok (.aload_n 0, 1) := by decide +kernel
theorem dX6_silence_35 : decode cX6_silence 35 = .ok (.getfield 40, 3) := by decide +kernel
theorem dX6_silence_38 : decode cX6_silence 38 = .ok (.iconst 2, 1) := by decide +kernel
theorem dX6_silence_39 : decode cX6_silence 39 = .ok (.lconst 0, 1) := by decide +kernel
theorem dX6_silence_40 : decode cX6_silence 40 = .ok (.lastore, 1) := by decide +kernel
theorem dX6_silence_41 : decode cX6_silence 41 = .ok (.iconst 0, 1) := by decide +kernel
theorem dX6_silence_42 : decode cX6_silence 42 = .ok (.istore_n 1, 1) := by decide +kernel
theorem dX6_silence_43 : decode cX6_silence 43 = .ok (.iload_n 1, 1) := by decide +kernel
theorem dX6_silence_44 : decode cX6_silence 44 = .ok (.bipush 20, 2) := by decide +kernel
theorem dX6_silence_46 : decode cX6_silence 46 = .ok (.if_icmp .ge 19, 3) := by decide +kernel
theorem dX6_silence_49 : decode cX6_silence 49 = .ok (.aload_n 0, 1) := by decide +kernel
theorem dX6_silence_50 : decode cX6_silence 50 = .ok (.getfield 40, 3) := by decide +kernel
theorem dX6_silence_53 : decode cX6_silence 53 = .ok (.bipush 36, 2) := by decide +kernel
theorem dX6_silence_55 : decode cX6_silence 55 = .ok (.iload_n 1, 1) := by decide +kernel
theorem dX6_silence_56 : decode cX6_silence 56 = .ok (.iadd, 1) := by decide +kernel
theorem dX6_silence_57 : decode cX6_silence 57 = .ok (.lconst 0, 1) := by decide +kernel
theorem dX6_silence_58 : decode cX6_silence 58 = .ok (.lastore, 1) := by decide +kernel
theorem dX6_silence_59 : decode cX6_silence 59 = .ok (.iinc 1 1, 3) := by decide +kernel
theorem dX6_silence_62 : decode cX6_silence 62 = .ok (.goto (-19), 3) := by decide +kernel
theorem dX6_silence_65 : decode cX6_silence 65 = .ok (.aload_n 0, 1) := by decide +kernel
theorem dX6_silence_66 : decode cX6_silence 66 = .ok (.invokevirtual 91, 3) := by decide +kernel
theorem dX6_silence_69 : decode cX6_silence 69 = .ok (.return_, 1) := by decide +kernel
theorem dX6_isDone_0 : decode cX6_isDone 0 = .ok (.aload_n 0, 1) := by decide +kernel
theorem dX6_isDone_1 : decode cX6_isDone 1 = .ok (.iconst 0, 1) := by decide +kernel
theorem dX6_isDone_2 : decode cX6_isDone 2 = .ok (.invokevirtual 126, 3) := by decide +kernel
theorem dX6_isDone_5 : decode cX6_isDone 5 = .ok (.istore_n 1, 1) := by decide +kernel
theorem dX6_isDone_6 : decode cX6_isDone 6 = .ok (.aload_n 0, 1) := by decide +kernel
theorem dX6_isDone_7 : decode cX6_isDone 7 = .ok (.getfield 40, 3) := by decide +kernel
theorem dX6_isDone_10 : decode cX6_isDone 10 = .ok (.iconst 1, 1) := by decide +kernel
theorem dX6_isDone_11 : decode cX6_isDone 11 = .ok (.dup2, 1) := by decide +kernel
theorem dX6_isDone_12 : decode cX6_isDone 12 = .ok (.laload, 1) := by decide +kernel
theorem dX6_isDone_13 : decode cX6_isDone 13 = .ok (.lconst 1, 1) := by decide +kernel
theorem dX6_isDone_14 : decode cX6_isDone 14 = .ok (.ladd, 1) := by decide +kernel
theorem dX6_isDone_15 : decode cX6_isDone 15 = .ok (.lastore, 1) := by decide +kernel
theorem dX6_isDone_16 : decode cX6_isDone 16 = .ok (.aload_n 0, 1) := by decide +kernel
theorem dX6_isDone_17 : decode cX6_isDone 17 = .ok (.getfield 40, 3) := by decide +kernel
theorem dX6_isDone_20 : decode cX6_isDone 20 = .ok (.iconst 3, 1) := by decide +kernel
theorem dX6_isDone_21 : decode cX6_isDone 21 = .ok (.lconst 0, 1) := by decide +kernel
theorem dX6_isDone_22 : decode cX6_isDone 22 = .ok (.lastore, 1) := by decide +kernel
theorem dX6_isDone_23 : decode cX6_isDone 23 = .ok (.aload_n 0, 1) := by decide +kernel
theorem dX6_isDone_24 : decode cX6_isDone 24 = .ok (.iconst 1, 1) := by decide +kernel
theorem dX6_isDone_25 : decode cX6_isDone 25 = .ok (.invokevirtual 126, 3) := by decide +kernel
theorem dX6_isDone_28 : decode cX6_isDone 28 = .ok (.istore_n 2, 1) := by decide +kernel
theorem dX6_isDone_29 : decode cX6_isDone 29 = .ok (.iload_n 2, 1) := by decide +kernel
theorem dX6_isDone_30 : decode cX6_isDone 30 = .ok (.aload_n 0, 1) := by decide +kernel
theorem dX6_isDone_31 : decode cX6_isDone 31 = .ok (.getfield 13, 3) := by decide +kernel
theorem dX6_isDone_34 : decode cX6_isDone 34 = .ok (.iload_n 1, 1) := by decide +kernel
theorem dX6_isDone_35 : decode cX6_isDone 35 = .ok (.iaload, 1) := by decide +kernel
theorem dX6_isDone_36 : decode cX6_isDone 36 = .ok (.if_icmp .ne 7, 3) := by decide +kernel
theorem dX6_isDone_39 : decode cX6_isDone 39 = .ok (.iconst 1, 1) := by decide +kernel
theorem dX6_isDone_40 : decode cX6_isDone 40 = .ok (.goto 4, 3) := by decide +kernel
theorem dX6_isDone_43 : decode cX6_isDone 43 = .ok (.iconst 0, 1) := by decide +kernel
theorem dX6_isDone_44 : decode cX6_isDone 44 = .ok (.istore_n 3, 1) := by decide +kernel
theorem dX6_isDone_45 : decode cX6_isDone 45 = .ok (.aload_n 0, 1) := by decide +kernel
theorem dX6_isDone_46 : decode cX6_isDone 46 = .ok (.getfield 116, 3) := by decide +kernel
theorem dX6_isDone_49 : decode cX6_isDone 49 = .ok (.ifCond .eq 26, 3) := by decide +kernel
theorem dX6_isDone_52 : decode cX6_isDone 52 = .ok (.aload_n 0, 1) := by decide +kernel
theorem dX6_isDone_53 : decode cX6_isDone 53 = .ok (.getfield 123, 3) := by decide +kernel
theorem dX6_isDone_56 : decode cX6_isDone 56 = .ok (.aload_n 0, 1) := by decide +kernel
theorem dX6_isDone_57 : decode cX6_isDone 57 = .ok (.getfield 120, 3) := by decide +kernel
theorem dX6_isDone_60 : decode cX6_isDone 60 = .ok (.if_icmp .ge 15, 3) := by decide +kernel
theorem dX6_isDone_63 : decode cX6_isDone 63 = .ok (.aload_n 0, 1) := by decide +kernel
theorem dX6_isDone_64 : decode cX6_isDone 64 = .ok (.getfield 57, 3) := by decide +kernel
theorem dX6_isDone_67 : decode cX6_isDone 67 = .ok (.aload_n 0, 1) := by decide +kernel
theorem dX6_isDone_68 : decode cX6_isDone 68 = .ok (.getfield 123, 3) := by decide +kernel
theorem dX6_isDone_71 : decode cX6_isDone 71 = .ok (.iaload, 1) := by decide +kernel
theorem dX6_isDone_72 : decode cX6_isDone 72 = .ok (.goto 4, 3) := by decide +kernel
theorem dX6_isDone_75 : decode cX6_isDone 75 = .ok (.iconst (-1), 1) := by decide +kernel
theorem dX6_isDone_76 : decode cX6_isDone 76 = .ok (.istore 4, 2) := by decide +kernel
theorem dX6_isDone_78 : decode cX6_isDone 78 = .ok (.iload 4, 2) := by decide +kernel
theorem dX6_isDone_80 : decode cX6_isDone 80 = .ok (.bipush 100, 2) := by decide +kernel
theorem dX6_isDone_82 : decode cX6_isDone 82 = .ok (.if_icmp .ne 10, 3) := by decide +kernel
theorem dX6_isDone_85 : decode cX6_isDone 85 = .ok (.iload_n 3, 1) := by decide +kernel
theorem dX6_isDone_86 : decode cX6_isDone 86 = .ok (.ifCond .eq 58, 3) := by decide +kernel
theorem dX6_isDone_89 : decode cX6_isDone 89 = .ok (.goto 20, 3) := by decide +kernel
theorem dX6_isDone_92 : decode cX6_isDone 92 = .ok (.iload 4, 2) := by decide +kernel
theorem dX6_isDone_94 : decode cX6_isDone 94 = .ok (.iconst (-1), 1) := by decide +kernel
theorem dX6_isDone_95 : decode cX6_isDone 95 = .ok (.if_icmp .eq 49, 3) := by decide +kernel
theorem dX6_isDone_98 : decode cX6_isDone 98 = .ok (.aload_n 0, 1) := by decide +kernel
theorem dX6_isDone_99 : decode cX6_isDone 99 = .ok (.getfield 28, 3) := by decide +kernel
theorem dX6_isDone_102 : decode cX6_isDone 102 = .ok (.iload 4, 2) := by decide +kernel
theorem dX6_isDone_104 : decode cX6_isDone 104 = .ok (.iaload, 1) := by decide +kernel
theorem dX6_isDone_105 : decode cX6_isDone 105 = .ok (.iload_n 2, 1) := by decide +kernel
theorem dX6_isDone_106 : decode cX6_isDone 106 = .ok (.if_icmp .ne 38, 3) := by decide +kernel
theorem dX6_isDone_109 : decode cX6_isDone 109 = .ok (.aload_n 0, 1) := by decide +kernel
theorem dX6_isDone_110 : decode cX6_isDone 110 = .ok (.dup, 1) := by decide +kernel
theorem dX6_isDone_111 : decode cX6_isDone 111 = .ok (.getfield 123, 3) := by decide +kernel
theorem dX6_isDone_114 : decode cX6_isDone 114 = .ok (.iconst 1, 1) := by decide +kernel
theorem dX6_isDone_115 : decode cX6_isDone 115 = .ok (.iadd, 1) := by decide +kernel
theorem dX6_isDone_116 : decode cX6_isDone 116 = .ok (.putfield 123, 3) := by decide +kernel
theorem dX6_isDone_119 : decode cX6_isDone 119 = .ok (.iload 4, 2) := by decide +kernel
theorem dX6_isDone_121 : decode cX6_isDone 121 = .ok (.bipush 100, 2) := by decide +kernel
theorem dX6_isDone_123 : decode cX6_isDone 123 = .ok (.if_icmp .ne 11, 3) := by decide +kernel
theorem dX6_isDone_126 : decode cX6_isDone 126 = .ok (.aload_n 0, 1) := by decide +kernel
theorem dX6_isDone_127 : decode cX6_isDone 127 = .ok (.iconst 1, 1) := by decide +kernel
theorem dX6_isDone_128 : decode cX6_isDone 128 = .ok (.invokevirtual 165, 3) := by decide +kernel
theorem dX6_isDone_131 : decode cX6_isDone 131 = .ok (.goto 81, 3) := by decide +kernel
theorem dX6_isDone_134 : decode cX6_isDone 134 = .ok (.aload_n 0, 1) := by decide +kernel
theorem dX6_isDone_135 : decode cX6_isDone 135 = .ok (.iload 4, 2) := by decide +kernel
theorem dX6_isDone_137 : decode cX6_isDone 137 = .ok (.iconst 1, 1) := by decide +kernel
theorem dX6_isDone_138 : decode cX6_isDone 138 = .ok (.invokevirtual 169, 3) := by decide +kernel
theorem dX6_isDone_141 : decode cX6_isDone 141 = .ok (.goto 71, 3) := by decide +kernel
theorem dX6_isDone_144 : decode cX6_isDone 144 = .ok (.iload_n 3, 1) := by decide +kernel
theorem dX6_isDone_145 : decode cX6_isDone 145 = .ok (.ifCond .eq 67, 3) := by decide +kernel
theorem dX6_isDone_148 : decode cX6_isDone 148 = .ok (.aload_n 0, 1) := by decide +kernel
theorem dX6_isDone_149 : decode cX6_isDone 149 = .ok (.iload_n 1, 1) := by decide +kernel
theorem dX6_isDone_150 : decode cX6_isDone 150 = .ok (.invokevirtual 172, 3) := by decide +kernel
theorem dX6_isDone_153 : decode cX6_isDone 153 = .ok (.istore 5, 2) := by decide +kernel
theorem dX6_isDone_155 : decode cX6_isDone 155 = .ok (.aload_n 0, 1) := by decide +kernel
theorem dX6_isDone_156 : decode cX6_isDone 156 = .ok (.getfield 7, 3) := by decide +kernel
theorem dX6_isDone_159 : decode cX6_isDone 159 = .ok (.iload_n 1, 1) := by decide +kernel
theorem dX6_isDone_160 : decode cX6_isDone 160 = .ok (.iaload, 1) := by decide +kernel
theorem dX6_isDone_161 : decode cX6_isDone 161 = .ok (.ifCond .ne 31, 3) := by decide +kernel
theorem dX6_isDone_164 : decode cX6_isDone 164 = .ok (.aload_n 0, 1) := by decide +kernel
theorem dX6_isDone_165 : decode cX6_isDone 165 = .ok (.iconst 2, 1) := by decide +kernel
theorem dX6_isDone_166 : decode cX6_isDone 166 = .ok (.invokevirtual 126, 3) := by decide +kernel
theorem dX6_isDone_169 : decode cX6_isDone 169 = .ok (.aload_n 0, 1) := by decide +kernel
theorem dX6_isDone_170 : decode cX6_isDone 170 = .ok (.getfield 22, 3) := by decide +kernel
theorem dX6_isDone_173 : decode cX6_isDone 173 = .ok (.iload_n 1, 1) := by decide +kernel
theorem dX6_isDone_174 : decode cX6_isDone 174 = .ok (.iaload, 1) := by decide +kernel
theorem dX6_isDone_175 : decode cX6_isDone 175 = .ok (.if_icmp .lt 9, 3) := by decide +kernel
theorem dX6_isDone_178 : decode cX6_isDone 178 = .ok (.iload 5, 2) := by decide +kernel
theorem dX6_isDone_180 : decode cX6_isDone 180 = .ok (.iconst (-1), 1) := by decide +kernel
theorem dX6_isDone_181 : decode cX6_isDone 181 = .ok (.if_icmp .ne 11, 3) := by decide +kernel
theorem dX6_isDone_184 : decode cX6_isDone 184 = .ok (.aload_n 0, 1) := by decide +kernel
theorem dX6_isDone_185 : decode cX6_isDone 185 = .ok (.iconst 0, 1) := by decide +kernel
theorem dX6_isDone_186 : decode cX6_isDone 186 = .ok (.invokevirtual 165, 3) := by decide +kernel
theorem dX6_isDone_189 : decode cX6_isDone 189 = .ok (.goto 23, 3) := by decide +kernel
theorem dX6_isDone_192 : decode cX6_isDone 192 = .ok (.iload 5, 2) := by decide +kernel
theorem dX6_isDone_194 : decode cX6_isDone 194 = .ok (.iconst (-1), 1) := by decide +kernel
theorem dX6_isDone_195 : decode cX6_isDone 195 = .ok (.if_icmp .eq 13, 3) := by decide +kernel
theorem dX6_isDone_198 : decode cX6_isDone 198 = .ok (.aload_n 0, 1) := by decide +kernel
theorem dX6_isDone_199 : decode cX6_isDone 199 = .ok (.iload 5, 2) := by decide +kernel
theorem dX6_isDone_201 : decode cX6_isDone 201 = .ok (.iconst 0, 1) := by decide +kernel
theorem dX6_isDone_202 : decode cX6_isDone 202 = .ok (.invokevirtual 169, 3) := by decide +kernel
theorem dX6_isDone_205 : decode cX6_isDone 205 = .ok (.goto 7, 3) := by decide +kernel
theorem dX6_isDone_208 : decode cX6_isDone 208 = .ok (.aload_n 0, 1) := by decide +kernel
theorem dX6_isDone_209 : decode cX6_isDone 209 = .ok (.invokevirtual 175, 3) := by decide +kernel
theorem dX6_isDone_212 : decode cX6_isDone 212 = .ok (.aload_n 0, 1) := by decide +kernel
theorem dX6_isDone_213 : decode cX6_isDone 213 = .ok (.iconst 0, 1) := by decide +kernel
theorem dX6_isDone_214 : decode cX6_isDone 214 = .ok (.invokevirtual 126, 3) := by decide +kernel
theorem dX6_isDone_217 : decode cX6_isDone 217 = .ok (.iconst (-1), 1) := by decide +kernel
theorem dX6_isDone_218 : decode cX6_isDone 218 = .ok (.if_icmp .ne 4, 3) := by decide +kernel
theorem dX6_isDone_221 : decode cX6_isDone 221 = .ok (.return_, 1) := by decide +kernel
theorem dX6_isDone_222 : decode cX6_isDone 222 = .ok (.aload_n 0, 1) := by decide +kernel
theorem dX6_isDone_223 : decode cX6_isDone 223 = .ok (.invokevirtual 178, 3) := by decide +kernel
theorem dX6_isDone_226 : decode cX6_isDone 226 = .ok (.aload_n 0, 1) := by decide +kernel
theorem dX6_isDone_227 : decode cX6_isDone 227 = .ok (.iconst 5, 1) := by decide +kernel
theorem dX6_isDone_228 : decode cX6_isDone 228 = .ok (.invokevirtual 126, 3) := by decide +kernel
theorem dX6_isDone_231 : decode cX6_isDone 231 = .ok (.iconst (-1), 1) := by decide +kernel
theorem dX6_isDone_232 : decode cX6_isDone 232 = .ok (.if_icmp .ne 46, 3) := by decide +kernel
theorem dX6_isDone_235 : decode cX6_isDone 235 = .ok (.aload_n 0, 1) := by decide +kernel
theorem dX6_isDone_236 : decode cX6_isDone 236 = .ok (.bipush 6, 2) := by decide +kernel
theorem dX6_isDone_238 : decode cX6_isDone 238 = .ok (.invokevirtual 126, 3) := by decide +kernel
theorem dX6_isDone_241 : decode cX6_isDone 241 = .ok (.ifCond .le 37, 3) := by decide +kernel
theorem dX6_isDone_244 : decode cX6_isDone 244 = .ok (.aload_n 0, 1) := by decide +kernel
theorem dX6_isDone_245 : decode cX6_isDone 245 = .ok (.getfield 13, 3) := by decide +kernel
theorem dX6_isDone_248 : decode cX6_isDone 248 = .ok (.aload_n 0, 1) := by decide +kernel
theorem dX6_isDone_249 : decode cX6_isDone 249 = .ok (.iconst 0, 1) := by decide +kernel
theorem dX6_isDone_250 : decode cX6_isDone 250 = .ok (.invokevirtual 126, 3) := by decide +kernel
theorem dX6_isDone_253 : decode cX6_isDone 253 = .ok (.iaload, 1) := by decide +kernel
theorem dX6_isDone_254 : decode cX6_isDone 254 = .ok (.aload_n 0, 1) := by decide +kernel
theorem dX6_isDone_255 : decode cX6_isDone 255 = .ok (.iconst 1, 1) := by decide +kernel
theorem dX6_isDone_256 : decode cX6_isDone 256 = .ok (.invokevirtual 126, 3) := by decide +kernel
theorem dX6_isDone_259 : decode cX6_isDone 259 = .ok (.isub, 1) := by decide +kernel
theorem dX6_isDone_260 : decode cX6_isDone 260 = .ok (.aload_n 0, 1) := by decide +kernel
theorem dX6_isDone_261 : decode cX6_isDone 261 = .ok (.getfield 13, 3) := by decide +kernel
theorem dX6_isDone_264 : decode cX6_isDone 264 = .ok (.aload_n 0, 1) := by decide +kernel
theorem dX6_isDone_265 : decode cX6_isDone 265 = .ok (.bipush 7, 2) := by decide +kernel
theorem dX6_isDone_267 : decode cX6_isDone 267 = .ok (.invokevirtual 126, 3) := by decide +kernel
theorem dX6_isDone_270 : decode cX6_isDone 270 = .ok (.iaload, 1) := by decide +kernel
theorem dX6_isDone_271 : decode cX6_isDone 271 = .ok (.if_icmp .lt 7, 3) := by decide +kernel
theorem dX6_isDone_274 : decode cX6_isDone 274 = .ok (.aload_n 0, 1) := by decide +kernel
theorem dX6_isDone_275 : decode cX6_isDone 275 = .ok (.invokevirtual 181, 3) := by decide +kernel
theorem dX6_isDone_278 : decode cX6_isDone 278 = .ok (.return_, 1) := by decide +kernel
theorem dX6_levels_0 : decode cX6_levels 0 = .ok (.iconst 0, 1) := by decide +kernel
theorem dX6_levels_1 : decode cX6_levels 1 = .ok (.istore_n 1, 1) := by decide +kernel
theorem dX6_levels_2 : decode cX6_levels 2 = .ok (.iconst 0, 1) := by decide +kernel
theorem dX6_levels_3 : decode cX6_levels 3 = .ok (.istore_n 2, 1) := by decide +kernel
theorem dX6_levels_4 : decode cX6_levels 4 = .ok (.iload_n 2, 1) := by decide +kernel
theorem dX6_levels_5 : decode cX6_levels 5 = .ok (.aload_n 0, 1) := by decide +kernel
theorem dX6_levels_6 : decode cX6_levels 6 = .ok (.getfield 84, 3) := by decide +kernel
theorem dX6_levels_9 : decode cX6_levels 9 = .ok (.if_icmp .ge 20, 3) := by decide +kernel
theorem dX6_levels_12 : decode cX6_levels 12 = .ok (.iload_n 1, 1) := by decide +kernel
theorem dX6_levels_13 : decode cX6_levels 13 = .ok (.aload_n 0, 1) := by decide +kernel
theorem dX6_levels_14 : decode cX6_levels 14 = .ok (.bipush 36, 2) := by decide +kernel
theorem dX6_levels_16 : decode cX6_levels 16 = .ok (.iload_n 2, 1) := by decide +kernel
theorem dX6_levels_17 : decode cX6_levels 17 = .ok (.iadd, 1) := by decide +kernel
theorem dX6_levels_18 : decode cX6_levels 18 = .ok (.invokevirtual 126, 3) := by decide +kernel
theorem dX6_levels_21 : decode cX6_levels 21 = .ok (.iadd, 1) := by decide +kernel
theorem dX6_levels_22 : decode cX6_levels 22 = .ok (.istore_n 1, 1) := by decide +kernel
theorem dX6_levels_23 : decode cX6_levels 23 = .ok (.iinc 2 1, 3) := by decide +kernel
theorem dX6_levels_26 : decode cX6_levels 26 = .ok (.goto (-22), 3) := by decide +kernel
theorem dX6_levels_29 : decode cX6_levels 29 = .ok (.iload_n 1, 1) := by decide +kernel
theorem dX6_levels_30 : decode cX6_levels 30 = .ok (.ireturn, 1) := by decide +kernel
theorem dX6_layers_0 : decode cX6_layers 0 = .ok (.iconst 0, 1) := by decide +kernel
theorem dX6_layers_1 : decode cX6_layers 1 = .ok (.istore_n 1, 1) := by decide +kernel
theorem dX6_layers_2 : decode cX6_layers 2 = .ok (.iload_n 1, 1) := by decide +kernel
theorem dX6_layers_3 : decode cX6_layers 3 = .ok (.aload_n 0, 1) := by decide +kernel
theorem dX6_layers_4 : decode cX6_layers 4 = .ok (.getfield 84, 3) := by decide +kernel
theorem dX6_layers_7 : decode cX6_layers 7 = .ok (.if_icmp .ge 107, 3) := by decide +kernel
theorem dX6_layers_10 : decode cX6_layers 10 = .ok (.aload_n 0, 1) := by decide +kernel
theorem dX6_layers_11 : decode cX6_layers 11 = .ok (.getfield 7, 3) := by decide +kernel
theorem dX6_layers_14 : decode cX6_layers 14 = .ok (.iload_n 1, 1) := by decide +kernel
theorem dX6_layers_15 : decode cX6_layers 15 = .ok (.iaload, 1) := by decide +kernel
theorem dX6_layers_16 : decode cX6_layers 16 = .ok (.iconst 2, 1) := by decide +kernel
theorem dX6_layers_17 : decode cX6_layers 17 = .ok (.if_icmp .ne 91, 3) := by decide +kernel
theorem dX6_layers_20 : decode cX6_layers 20 = .ok (.aload_n 0, 1) := by decide +kernel
theorem dX6_layers_21 : decode cX6_layers 21 = .ok (.iconst 1, 1) := by decide +kernel
theorem dX6_layers_22 : decode cX6_layers 22 = .ok (.invokevirtual 126, 3) := by decide +kernel
theorem dX6_layers_25 : decode cX6_layers 25 = .ok (.aload_n 0, 1) := by decide +kernel
theorem dX6_layers_26 : decode cX6_layers 26 = .ok (.getfield 13, 3) := by decide +kernel
theorem dX6_layers_29 : decode cX6_layers 29 = .ok (.iload_n 1, 1) := by decide +kernel
theorem dX6_layers_30 : decode cX6_layers 30 = .ok (.iaload, 1) := by decide +kernel
theorem dX6_layers_31 : decode cX6_layers 31 = .ok (.irem, 1) := by decide +kernel
theorem dX6_layers_32 : decode cX6_layers 32 = .ok (.ifCond .eq 6, 3) := by decide +kernel
theorem dX6_layers_35 : decode cX6_layers 35 = .ok (.goto 73, 3) := by decide +kernel
theorem dX6_layers_38 : decode cX6_layers 38 = .ok (.aload_n 0, 1) := by decide +kernel
theorem dX6_layers_39 : decode cX6_layers 39 = .ok (.bipush 16, 2) := by decide +kernel
theorem dX6_layers_41 : decode cX6_layers 41 = .ok (.iload_n 1, 1) := by decide +kernel
theorem dX6_layers_42 : decode cX6_layers 42 = .ok (.iadd, 1) := by decide +kernel
theorem dX6_layers_43 : decode cX6_layers 43 = .ok (.invokevirtual 126, 3) := by decide +kernel
theorem dX6_layers_46 : decode cX6_layers 46 = .ok (.istore_n 2, 1) := by decide +kernel
theorem dX6_layers_47 : decode cX6_layers 47 = .ok (.aload_n 0, 1) := by decide +kernel
theorem dX6_layers_48 : decode cX6_layers 48 = .ok (.bipush 36, 2) := by decide +kernel
theorem dX6_layers_50 : decode cX6_layers 50 = .ok (.iload_n 1, 1) := by decide +kernel
theorem dX6_layers_51 : decode cX6_layers 51 = .ok (.iadd, 1) := by decide +kernel
theorem dX6_layers_52 : decode cX6_layers 52 = .ok (.invokevirtual 126, 3) := by decide +kernel
theorem dX6_layers_55 : decode cX6_layers 55 = .ok (.istore_n 3, 1) := by decide +kernel
theorem dX6_layers_56 : decode cX6_layers 56 = .ok (.iload_n 2, 1) := by decide +kernel
theorem dX6_layers_57 : decode cX6_layers 57 = .ok (.ifCond .le 30, 3) := by decide +kernel
theorem dX6_layers_60 : decode cX6_layers 60 = .ok (.iload_n 3, 1) := by decide +kernel
theorem dX6_layers_61 : decode cX6_layers 61 = .ok (.iload_n 2, 1) := by decide +kernel
theorem dX6_layers_62 : decode cX6_layers 62 = .ok (.if_icmp .ge 25, 3) := by decide +kernel
theorem dX6_layers_65 : decode cX6_layers 65 = .ok (.aload_n 0, 1) := by decide +kernel
theorem dX6_layers_66 : decode cX6_layers 66 = .ok (.invokevirtual 184, 3) := by decide +kernel
theorem dX6_layers_69 : decode cX6_layers 69 = .ok (.bipush 16, 2) := by decide +kernel
theorem dX6_layers_71 : decode cX6_layers 71 = .ok (.if_icmp .ge 16, 3) := by decide +kernel
theorem dX6_layers_74 : decode cX6_layers 74 = .ok (.aload_n 0, 1) := by decide +kernel
theorem dX6_layers_75 : decode cX6_layers 75 = .ok (.getfield 40, 3) := by decide +kernel
theorem dX6_layers_78 : decode cX6_layers 78 = .ok (.bipush 36, 2) := by decide +kernel
theorem dX6_layers_80 : decode cX6_layers 80 = .ok (.iload_n 1, 1) := by decide +kernel
theorem dX6_layers_81 : decode cX6_layers 81 = .ok (.iadd, 1) := by decide +kernel
theorem dX6_layers_82 : decode cX6_layers 82 = .ok (.dup2, 1) := by decide +kernel
theorem dX6_layers_83 : decode cX6_layers 83 = .ok (.laload, 1) := by decide +kernel
theorem dX6_layers_84 : decode cX6_layers 84 = .ok (.lconst 1, 1) := by decide +kernel
theorem dX6_layers_85 : decode cX6_layers 85 = .ok (.ladd, 1) := by decide +kernel
theorem dX6_layers_86 : decode cX6_layers 86 = .ok (.lastore, 1) := by decide +kernel
theorem dX6_layers_87 : decode cX6_layers 87 = .ok (.iload_n 2, 1) := by decide +kernel
theorem dX6_layers_88 : decode cX6_layers 88 = .ok (.ifCond .ne 20, 3) := by decide +kernel
theorem dX6_layers_91 : decode cX6_layers 91 = .ok (.iload_n 3, 1) := by decide +kernel
theorem dX6_layers_92 : decode cX6_layers 92 = .ok (.ifCond .le 16, 3) := by decide +kernel
theorem dX6_layers_95 : decode cX6_layers 95 = .ok (.aload_n 0, 1) := by decide +kernel
theorem dX6_layers_96 : decode cX6_layers 96 = .ok (.getfield 40, 3) := by decide +kernel
theorem dX6_layers_99 : decode cX6_layers 99 = .ok (.bipush 36, 2) := by decide +kernel
theorem dX6_layers_101 : decode cX6_layers 101 = .ok (.iload_n 1, 1) := by decide +kernel
theorem dX6_layers_102 : decode cX6_layers 102 = .ok (.iadd, 1) := by decide +kernel
theorem dX6_layers_103 : decode cX6_layers 103 = .ok (.dup2, 1) := by decide +kernel
theorem dX6_layers_104 : decode cX6_layers 104 = .ok (.laload, 1) := by decide +kernel
theorem dX6_layers_105 : decode cX6_layers 105 = .ok (.lconst 1, 1) := by decide +kernel
theorem dX6_layers_106 : decode cX6_layers 106 = .ok (.lsub, 1) := by decide +kernel
theorem dX6_layers_107 : decode cX6_layers 107 = .ok (.lastore, 1) := by decide +kernel
theorem dX6_layers_108 : decode cX6_layers 108 = .ok (.iinc 1 1, 3) := by decide +kernel
theorem dX6_layers_111 : decode cX6_layers 111 = .ok (.goto (-109), 3) := by decide +kernel
theorem dX6_layers_114 : decode cX6_layers 114 = .ok (.return_, 1) := by decide +kernel
theorem dX6_stings_0 : decode cX6_stings 0 = .ok (.aload_n 0, 1) := by decide +kernel
theorem dX6_stings_1 : decode cX6_stings 1 = .ok (.bipush 7, 2) := by decide +kernel
theorem dX6_stings_3 : decode cX6_stings 3 = .ok (.invokevirtual 126, 3) := by decide +kernel
theorem dX6_stings_6 : decode cX6_stings 6 = .ok (.istore_n 1, 1) := by decide +kernel
theorem dX6_stings_7 : decode cX6_stings 7 = .ok (.aload_n 0, 1) := by decide +kernel
theorem dX6_stings_8 : decode cX6_stings 8 = .ok (.getfield 40, 3) := by decide +kernel
theorem dX6_stings_11 : decode cX6_stings 11 = .ok (.bipush 6, 2) := by decide +kernel
theorem dX6_stings_13 : decode cX6_stings 13 = .ok (.dup2, 1) := by decide +kernel
theorem dX6_stings_14 : decode cX6_stings 14 = .ok (.laload, 1) := by decide +kernel
theorem dX6_stings_15 : decode cX6_stings 15 = .ok (.lconst 1, 1) := by decide +kernel
theorem dX6_stings_16 : decode cX6_stings 16 = .ok (.lsub, 1) := by decide +kernel
theorem dX6_stings_17 : decode cX6_stings 17 = .ok (.lastore, 1) := by decide +kernel
theorem dX6_stings_18 : decode cX6_stings 18 = .ok (.iconst 0, 1) := by decide +kernel
theorem dX6_stings_19 : decode cX6_stings 19 = .ok (.istore_n 2, 1) := by decide +kernel
theorem dX6_stings_20 : decode cX6_stings 20 = .ok (.iload_n 2, 1) := by decide +kernel
theorem dX6_stings_21 : decode cX6_stings 21 = .ok (.aload_n 0, 1) := by decide +kernel
theorem dX6_stings_22 : decode cX6_stings 22 = .ok (.bipush 6, 2) := by decide +kernel
theorem dX6_stings_24 : decode cX6_stings 24 = .ok (.invokevirtual 126, 3) := by decide +kernel
theorem dX6_stings_27 : decode cX6_stings 27 = .ok (.if_icmp .ge 29, 3) := by decide +kernel
theorem dX6_stings_30 : decode cX6_stings 30 = .ok (.aload_n 0, 1) := by decide +kernel
theorem dX6_stings_31 : decode cX6_stings 31 = .ok (.getfield 40, 3) := by decide +kernel
theorem dX6_stings_34 : decode cX6_stings 34 = .ok (.bipush 7, 2) := by decide +kernel
theorem dX6_stings_36 : decode cX6_stings 36 = .ok (.iload_n 2, 1) := by decide +kernel
theorem dX6_stings_37 : decode cX6_stings 37 = .ok (.iadd, 1) := by decide +kernel
theorem dX6_stings_38 : decode cX6_stings 38 = .ok (.aload_n 0, 1) := by decide +kernel
theorem dX6_stings_39 : decode cX6_stings 39 = .ok (.getfield 40, 3) := by decide +kernel
theorem dX6_stings_42 : decode cX6_stings 42 = .ok (.bipush 7, 2) := by decide +kernel
theorem dX6_stings_44 : decode cX6_stings 44 = .ok (.iload_n 2, 1) := by decide +kernel
theorem dX6_stings_45 : decode cX6_stings 45 = .ok (.iadd, 1) := by decide +kernel
theorem dX6_stings_46 : decode cX6_stings 46 = .ok (.iconst 1, 1) := by decide +kernel
theorem dX6_stings_47 : decode cX6_stings 47 = .ok (.iadd, 1) := by decide +kernel
theorem dX6_stings_48 : decode cX6_stings 48 = .ok (.laload, 1) := by decide +kernel
theorem dX6_stings_49 : decode cX6_stings 49 = .ok (.lastore, 1) := by decide +kernel
theorem dX6_stings_50 : decode cX6_stings 50 = .ok (.iinc 2 1, 3) := by decide +kernel
theorem dX6_stings_53 : decode cX6_stings 53 = .ok (.goto (-33), 3) := by decide +kernel
theorem dX6_stings_56 : decode cX6_stings 56 = .ok (.aload_n 0, 1) := by decide +kernel
theorem dX6_stings_57 : decode cX6_stings 57 = .ok (.getfield 40, 3) := by decide +kernel
theorem dX6_stings_60 : decode cX6_stings 60 = .ok (.iconst 5, 1) := by decide +kernel
theorem dX6_stings_61 : decode cX6_stings 61 = .ok (.iload_n 1, 1) := by decide +kernel
theorem dX6_stings_62 : decode cX6_stings 62 = .ok (.i2l, 1) := by decide +kernel
theorem dX6_stings_63 : decode cX6_stings 63 = .ok (.lastore, 1) := by decide +kernel
theorem dX6_stings_64 : decode cX6_stings 64 = .ok (.aload_n 0, 1) := by decide +kernel
theorem dX6_stings_65 : decode cX6_stings 65 = .ok (.aload_n 0, 1) := by decide +kernel
theorem dX6_stings_66 : decode cX6_stings 66 = .ok (.getfield 154, 3) := by decide +kernel
theorem dX6_stings_69 : decode cX6_stings 69 = .ok (.aload_n 0, 1) := by decide +kernel
theorem dX6_stings_70 : decode cX6_stings 70 = .ok (.getfield 13, 3) := by decide +kernel
theorem dX6_stings_73 : decode cX6_stings 73 = .ok (.iload_n 1, 1) := by decide +kernel
theorem dX6_stings_74 : decode cX6_stings 74 = .ok (.iaload, 1) := by decide +kernel
theorem dX6_stings_75 : decode cX6_stings 75 = .ok (.i2l, 1) := by decide +kernel
theorem dX6_stings_76 : decode cX6_stings 76 = .ok (.aload_n 0, 1) := by decide +kernel
theorem dX6_stings_77 : decode cX6_stings 77 = .ok (.getfield 16, 3) := by decide +kernel
theorem dX6_stings_80 : decode cX6_stings 80 = .ok (.iload_n 1, 1) := by decide +kernel
theorem dX6_stings_81 : decode cX6_stings 81 = .ok (.iaload, 1) := by decide +kernel
theorem dX6_stings_82 : decode cX6_stings 82 = .ok (.i2l, 1) := by decide +kernel
theorem dX6_stings_83 : decode cX6_stings 83 = .ok (.lmul, 1) := by decide +kernel
theorem dX6_stings_84 : decode cX6_stings 84 = .ok (.ladd, 1) := by decide +kernel
theorem dX6_stings_85 : decode cX6_stings 85 = .ok (.putfield 188, 3) := by decide +kernel
theorem dX6_stings_88 : decode cX6_stings 88 = .ok (.aload_n 0, 1) := by decide +kernel
theorem dX6_stings_89 : decode cX6_stings 89 = .ok (.iconst 5, 1) := by decide +kernel
theorem dX6_stings_90 : decode cX6_stings 90 = .ok (.iload_n 1, 1) := by decide +kernel
theorem dX6_stings_91 : decode cX6_stings 91 = .ok (.invokevirtual 158, 3) := by decide +kernel
theorem dX6_stings_94 : decode cX6_stings 94 = .ok (.return_, 1) := by decide +kernel
theorem dX6_layer_0 : decode cX6_layer 0 = .ok (.aload_n 0, 1) := by decide +kernel
theorem dX6_layer_1 : decode cX6_layer 1 = .ok (.iconst 0, 1) := by decide +kernel
theorem dX6_layer_2 : decode cX6_layer 2 = .ok (.putfield 80, 3) := by decide +kernel
theorem dX6_layer_5 : decode cX6_layer 5 = .ok (.aload_n 0, 1) := by decide +kernel
theorem dX6_layer_6 : decode cX6_layer 6 = .ok (.iload_n 1, 1) := by decide +kernel
theorem dX6_layer_7 : decode cX6_layer 7 = .ok (.invokevirtual 94, 3) := by decide +kernel
theorem dX6_layer_10 : decode cX6_layer 10 = .ok (.ifCond .ne 5, 3) := by decide +kernel
theorem dX6_layer_13 : decode cX6_layer 13 = .ok (.iconst 0, 1) := by decide +kernel
theorem dX6_layer_14 : decode cX6_layer 14 = .ok (.ireturn, 1) := by decide +kernel
theorem dX6_layer_15 : decode cX6_layer 15 = .ok (.aload_n 0, 1) := by decide +kernel
theorem dX6_layer_16 : decode cX6_layer 16 = .ok (.getfield 7, 3) := by decide +kernel
theorem dX6_layer_19 : decode cX6_layer 19 = .ok (.iload_n 1, 1) := by decide +kernel
theorem dX6_layer_20 : decode cX6_layer 20 = .ok (.iaload, 1) := by decide +kernel
theorem dX6_layer_21 : decode cX6_layer 21 = .ok (.iconst 2, 1) := by decide +kernel
theorem dX6_layer_22 : decode cX6_layer 22 = .ok (.if_icmp .ne 13, 3) := by decide +kernel
theorem dX6_layer_25 : decode cX6_layer 25 = .ok (.iload_n 2, 1) := by decide +kernel
theorem dX6_layer_26 : decode cX6_layer 26 = .ok (.ifCond .lt 9, 3) := by decide +kernel
theorem dX6_layer_29 : decode cX6_layer 29 = .ok (.iload_n 2, 1) := by decide +kernel
theorem dX6_layer_30 : decode cX6_layer 30 = .ok (.bipush 8, 2) := by decide +kernel
theorem dX6_layer_32 : decode cX6_layer 32 = .ok (.if_icmp .le 5, 3) := by decide +kernel
theorem dX6_layer_35 : decode cX6_layer 35 = .ok (.iconst (-1), 1) := by decide +kernel
theorem dX6_layer_36 : decode cX6_layer 36 = .ok (.ireturn, 1) := by decide +kernel
theorem dX6_layer_37 : decode cX6_layer 37 = .ok (.aload_n 0, 1) := by decide +kernel
theorem dX6_layer_38 : decode cX6_layer 38 = .ok (.bipush 16, 2) := by decide +kernel
theorem dX6_layer_40 : decode cX6_layer 40 = .ok (.iload_n 1, 1) := by decide +kernel
theorem dX6_layer_41 : decode cX6_layer 41 = .ok (.iadd, 1) := by decide +kernel
theorem dX6_layer_42 : decode cX6_layer 42 = .ok (.invokevirtual 126, 3) := by decide +kernel
theorem dX6_layer_45 : decode cX6_layer 45 = .ok (.istore_n 3, 1) := by decide +kernel
theorem dX6_layer_46 : decode cX6_layer 46 = .ok (.aload_n 0, 1) := by decide +kernel
theorem dX6_layer_47 : decode cX6_layer 47 = .ok (.getfield 40, 3) := by decide +kernel
theorem dX6_layer_50 : decode cX6_layer 50 = .ok (.bipush 16, 2) := by decide +kernel
theorem dX6_layer_52 : decode cX6_layer 52 = .ok (.iload_n 1, 1) := by decide +kernel
theorem dX6_layer_53 : decode cX6_layer 53 = .ok (.iadd, 1) := by decide +kernel
theorem dX6_layer_54 : decode cX6_layer 54 = .ok (.iload_n 2, 1) := by decide +kernel
theorem dX6_layer_55 : decode cX6_layer 55 = .ok (.i2l, 1) := by decide +kernel
theorem dX6_layer_56 : decode cX6_layer 56 = .ok (.lastore, 1) := by decide +kernel
theorem dX6_layer_57 : decode cX6_layer 57 = .ok (.iload_n 3, 1) := by decide +kernel
theorem dX6_layer_58 : decode cX6_layer 58 = .ok (.ireturn, 1) := by decide +kernel
theorem dX6_sting_0 : decode cX6_sting 0 = .ok (.aload_n 0, 1) := by decide +kernel
theorem dX6_sting_1 : decode cX6_sting 1 = .ok (.iconst 0, 1) := by decide +kernel
theorem dX6_sting_2 : decode cX6_sting 2 = .ok (.putfield 80, 3) := by decide +kernel
theorem dX6_sting_5 : decode cX6_sting 5 = .ok (.aload_n 0, 1) := by decide +kernel
theorem dX6_sting_6 : decode cX6_sting 6 = .ok (.iload_n 1, 1) := by decide +kernel
theorem dX6_sting_7 : decode cX6_sting 7 = .ok (.invokevirtual 94, 3) := by decide +kernel
theorem dX6_sting_10 : decode cX6_sting 10 = .ok (.ifCond .ne 5, 3) := by decide +kernel
theorem dX6_sting_13 : decode cX6_sting 13 = .ok (.iconst 0, 1) := by decide +kernel
theorem dX6_sting_14 : decode cX6_sting 14 = .ok (.ireturn, 1) := by decide +kernel
theorem dX6_sting_15 : decode cX6_sting 15 = .ok (.aload_n 0, 1) := by decide +kernel
theorem dX6_sting_16 : decode cX6_sting 16 = .ok (.getfield 7, 3) := by decide +kernel
theorem dX6_sting_19 : decode cX6_sting 19 = .ok (.iload_n 1, 1) := by decide +kernel
theorem dX6_sting_20 : decode cX6_sting 20 = .ok (.iaload, 1) := by decide +kernel
theorem dX6_sting_21 : decode cX6_sting 21 = .ok (.iconst 3, 1) := by decide +kernel
theorem dX6_sting_22 : decode cX6_sting 22 = .ok (.if_icmp .ne 13, 3) := by decide +kernel
theorem dX6_sting_25 : decode cX6_sting 25 = .ok (.aload_n 0, 1) := by decide +kernel
theorem dX6_sting_26 : decode cX6_sting 26 = .ok (.bipush 6, 2) := by decide +kernel
theorem dX6_sting_28 : decode cX6_sting 28 = .ok (.invokevirtual 126, 3) := by decide +kernel
theorem dX6_sting_31 : decode cX6_sting 31 = .ok (.iconst 4, 1) := by decide +kernel
theorem dX6_sting_32 : decode cX6_sting 32 = .ok (.if_icmp .ne 5, 3) := by decide +kernel
theorem dX6_sting_35 : decode cX6_sting 35 = .ok (.iconst (-1), 1) := by decide +kernel
theorem dX6_sting_36 : decode cX6_sting 36 = .ok (.ireturn, 1) := by decide +kernel
theorem dX6_sting_37 : decode cX6_sting 37 = .ok (.aload_n 0, 1) := by decide +kernel
theorem dX6_sting_38 : decode cX6_sting 38 = .ok (.getfield 40, 3) := by decide +kernel
theorem dX6_sting_41 : decode cX6_sting 41 = .ok (.bipush 7, 2) := by decide +kernel
theorem dX6_sting_43 : decode cX6_sting 43 = .ok (.aload_n 0, 1) := by decide +kernel
theorem dX6_sting_44 : decode cX6_sting 44 = .ok (.bipush 6, 2) := by decide +kernel
theorem dX6_sting_46 : decode cX6_sting 46 = .ok (.invokevirtual 126, 3) := by decide +kernel
theorem dX6_sting_49 : decode cX6_sting 49 = .ok (.iadd, 1) := by decide +kernel
theorem dX6_sting_50 : decode cX6_sting 50 = .ok (.iload_n 1, 1) := by decide +kernel
theorem dX6_sting_51 : decode cX6_sting 51 = .ok (.i2l, 1) := by decide +kernel
theorem dX6_sting_52 : decode cX6_sting 52 = .ok (.lastore, 1) := by decide +kernel
theorem dX6_sting_53 : decode cX6_sting 53 = .ok (.aload_n 0, 1) := by decide +kernel
theorem dX6_sting_54 : decode cX6_sting 54 = .ok (.getfield 40, 3) := by decide +kernel
theorem dX6_sting_57 : decode cX6_sting 57 = .ok (.bipush 6, 2) := by decide +kernel
theorem dX6_sting_59 : decode cX6_sting 59 = .ok (.dup2, 1) := by decide +kernel
theorem dX6_sting_60 : decode cX6_sting 60 = .ok (.laload, 1) := by decide +kernel
theorem dX6_sting_61 : decode cX6_sting 61 = .ok (.lconst 1, 1) := by decide +kernel
theorem dX6_sting_62 : decode cX6_sting 62 = .ok (.ladd, 1) := by decide +kernel
theorem dX6_sting_63 : decode cX6_sting 63 = .ok (.lastore, 1) := by decide +kernel
theorem dX6_sting_64 : decode cX6_sting 64 = .ok (.aload_n 0, 1) := by decide +kernel
theorem dX6_sting_65 : decode cX6_sting 65 = .ok (.bipush 6, 2) := by decide +kernel
theorem dX6_sting_67 : decode cX6_sting 67 = .ok (.invokevirtual 126, 3) := by decide +kernel
theorem dX6_sting_70 : decode cX6_sting 70 = .ok (.ireturn, 1) := by decide +kernel
theorem dX6_go_0 : decode cX6_go 0 = .ok (.aload_n 0, 1) := by decide +kernel
theorem dX6_go_1 : decode cX6_go 1 = .ok (.iconst 0, 1) := by decide +kernel
theorem dX6_go_2 : decode cX6_go 2 = .ok (.putfield 80, 3) := by decide +kernel
theorem dX6_go_5 : decode cX6_go 5 = .ok (.aload_n 0, 1) := by decide +kernel
theorem dX6_go_6 : decode cX6_go 6 = .ok (.iload_n 1, 1) := by decide +kernel
theorem dX6_go_7 : decode cX6_go 7 = .ok (.ifCond .lt 14, 3) := by decide +kernel
theorem dX6_go_10 : decode cX6_go 10 = .ok (.iload_n 1, 1) := by decide +kernel
theorem dX6_go_11 : decode cX6_go 11 = .ok (.sipush 20000, 3) := by decide +kernel
theorem dX6_go_14 : decode cX6_go 14 = .ok (.if_icmp .gt 7, 3) := by decide +kernel
theorem dX6_go_17 : decode cX6_go 17 = .ok (.iconst 1, 1) := by decide +kernel
theorem dX6_go_18 : decode cX6_go 18 = .ok (.goto 4, 3) := by decide +kernel
theorem dX6_go_21 : decode cX6_go 21 = .ok (.iconst 0, 1) := by decide +kernel
theorem dX6_go_22 : decode cX6_go 22 = .ok (.iconst 1, 1) := by decide +kernel
theorem dX6_go_23 : decode cX6_go 23 = .ok (.invokevirtual 87, 3) := by decide +kernel
theorem dX6_go_26 : decode cX6_go 26 = .ok (.ifCond .ne 5, 3) := by decide +kernel
theorem dX6_go_29 : decode cX6_go 29 = .ok (.lconst 0, 1) := by decide +kernel
theorem dX6_go_30 : decode cX6_go 30 = .ok (.lreturn, 1) := by decide +kernel
theorem dX6_go_31 : decode cX6_go 31 = .ok (.aload_n 0, 1) := by decide +kernel
theorem dX6_go_32 : decode cX6_go 32 = .ok (.getfield 154, 3) := by decide +kernel
theorem dX6_go_35 : decode cX6_go 35 = .ok (.iload_n 1, 1) := by decide +kernel
theorem dX6_go_36 : decode cX6_go 36 = .ok (.i2l, 1) := by decide +kernel
theorem dX6_go_37 : decode cX6_go 37 = .ok (.ladd, 1) := by decide +kernel
theorem dX6_go_38 : decode cX6_go 38 = .ok (.lstore_n 2, 1) := by decide +kernel
theorem dX6_go_39 : decode cX6_go 39 = .ok (.iconst 1, 1) := by decide +kernel
theorem dX6_go_40 : decode cX6_go 40 = .ok (.istore 4, 2) := by decide +kernel
theorem dX6_go_42 : decode cX6_go 42 = .ok (.iload 4, 2) := by decide +kernel
theorem dX6_go_44 : decode cX6_go 44 = .ok (.ifCond .eq 183, 3) := by decide +kernel
theorem dX6_go_47 : decode cX6_go 47 = .ok (.aload_n 0, 1) := by decide +kernel
theorem dX6_go_48 : decode cX6_go 48 = .ok (.iconst 0, 1) := by decide +kernel
theorem dX6_go_49 : decode cX6_go 49 = .ok (.invokevirtual 126, 3) := by decide +kernel
theorem dX6_go_52 : decode cX6_go 52 = .ok (.istore 5, 2) := by decide +kernel
theorem dX6_go_54 : decode cX6_go 54 = .ok (.iload 5, 2) := by decide +kernel
theorem dX6_go_56 : decode cX6_go 56 = .ok (.iconst (-1), 1) := by decide +kernel
theorem dX6_go_57 : decode cX6_go 57 = .ok (.if_icmp .ne 9, 3) := by decide +kernel
theorem dX6_go_60 : decode cX6_go 60 = .ok (.ldc2_w 108, 3) := by decide +kernel
theorem dX6_go_63 : decode cX6_go 63 = .ok (.goto 23, 3) := by decide +kernel
theorem dX6_go_66 : decode cX6_go 66 = .ok (.aload_n 0, 1) := by decide +kernel
theorem dX6_go_67 : decode cX6_go 67 = .ok (.getfield 154, 3) := by decide +kernel
theorem dX6_go_70 : decode cX6_go 70 = .ok (.aload_n 0, 1) := by decide +kernel
theorem dX6_go_71 : decode cX6_go 71 = .ok (.getfield 16, 3) := by decide +kernel
theorem dX6_go_74 : decode cX6_go 74 = .ok (.iload 5, 2) := by decide +kernel
theorem dX6_go_76 : decode cX6_go 76 = .ok (.iaload, 1) := by decide +kernel
theorem dX6_go_77 : decode cX6_go 77 = .ok (.i2l, 1) := by decide +kernel
theorem dX6_go_78 : decode cX6_go 78 = .ok (.ladd, 1) := by decide +kernel
theorem dX6_go_79 : decode cX6_go 79 = .ok (.aload_n 0, 1) := by decide +kernel
theorem dX6_go_80 : decode cX6_go 80 = .ok (.iconst 3, 1) := by decide +kernel
theorem dX6_go_81 : decode cX6_go 81 = .ok (.invokevirtual 126, 3) := by decide +kernel
theorem dX6_go_84 : decode cX6_go 84 = .ok (.i2l, 1) := by decide +kernel
theorem dX6_go_85 : decode cX6_go 85 = .ok (.lsub, 1) := by decide +kernel
theorem dX6_go_86 : decode cX6_go 86 = .ok (.lstore 6, 2) := by decide +kernel
theorem dX6_go_88 : decode cX6_go 88 = .ok (.aload_n 0, 1) := by decide +kernel
theorem dX6_go_89 : decode cX6_go 89 = .ok (.iconst 5, 1) := by decide +kernel
theorem dX6_go_90 : decode cX6_go 90 = .ok (.invokevirtual 126, 3) := by decide +kernel
theorem dX6_go_93 : decode cX6_go 93 = .ok (.iconst (-1), 1) := by decide +kernel
theorem dX6_go_94 : decode cX6_go 94 = .ok (.if_icmp .ne 9, 3) := by decide +kernel
theorem dX6_go_97 : decode cX6_go 97 = .ok (.ldc2_w 108, 3) := by decide +kernel
theorem dX6_go_100 : decode cX6_go 100 = .ok (.goto 7, 3) := by decide +kernel
theorem dX6_go_103 : decode cX6_go 103 = .ok (.aload_n 0, 1) := by decide +kernel
theorem dX6_go_104 : decode cX6_go 104 = .ok (.getfield 188, 3) := by decide +kernel
theorem dX6_go_107 : decode cX6_go 107 = .ok (.lstore 8, 2) := by decide +kernel
theorem dX6_go_109 : decode cX6_go 109 = .ok (.lload 6, 2) := by decide +kernel
theorem dX6_go_111 : decode cX6_go 111 = .ok (.lload 8, 2) := by decide +kernel
theorem dX6_go_113 : decode cX6_go 113 = .ok (.lcmp, 1) := by decide +kernel
theorem dX6_go_114 : decode cX6_go 114 = .ok (.ifCond .ge 8, 3) := by decide +kernel
theorem dX6_go_117 : decode cX6_go 117 = .ok (.lload 6, 2) := by decide +kernel
theorem dX6_go_119 : decode cX6_go 119 = .ok (.goto 5, 3) := by decide +kernel
theorem dX6_go_122 : decode cX6_go 122 = .ok (.lload 8, 2) := by decide +kernel
theorem dX6_go_124 : decode cX6_go 124 = .ok (.lstore 10, 2) := by decide +kernel
theorem dX6_go_126 : decode cX6_go 126 = .ok (.lload 10, 2) := by decide +kernel
theorem dX6_go_128 : decode cX6_go 128 = .ok (.lload_n 2, 1) := by decide +kernel
theorem dX6_go_129 : decode cX6_go 129 = .ok (.lcmp, 1) := by decide +kernel
theorem dX6_go_130 : decode cX6_go 130 = .ok (.ifCond .gt 7, 3) := by decide +kernel
theorem dX6_go_133 : decode cX6_go 133 = .ok (.iconst 1, 1) := by decide +kernel
theorem dX6_go_134 : decode cX6_go 134 = .ok (.goto 4, 3) := by decide +kernel
theorem dX6_go_137 : decode cX6_go 137 = .ok (.iconst 0, 1) := by decide +kernel
theorem dX6_go_138 : decode cX6_go 138 = .ok (.istore 4, 2) := by decide +kernel
theorem dX6_go_140 : decode cX6_go 140 = .ok (.iload 4, 2) := by decide +kernel
theorem dX6_go_142 : decode cX6_go 142 = .ok (.ifCond .eq 8, 3) := by decide +kernel
theorem dX6_go_145 : decode cX6_go 145 = .ok (.lload 10, 2) := by decide +kernel
theorem dX6_go_147 : decode cX6_go 147 = .ok (.goto 4, 3) := by decide +kernel
theorem dX6_go_150 : decode cX6_go 150 = .ok (.lload_n 2, 1) := by decide +kernel
theorem dX6_go_151 : decode cX6_go 151 = .ok (.lstore 12, 2) := by decide +kernel
theorem dX6_go_153 : decode cX6_go 153 = .ok (.iload 5, 2) := by decide +kernel
theorem dX6_go_155 : decode cX6_go 155 = .ok (.iconst (-1), 1) := by decide +kernel
theorem dX6_go_156 : decode cX6_go 156 = .ok (.if_icmp .eq 19, 3) := by decide +kernel
theorem dX6_go_159 : decode cX6_go 159 = .ok (.aload_n 0, 1) := by decide +kernel
theorem dX6_go_160 : decode cX6_go 160 = .ok (.getfield 40, 3) := by decide +kernel
theorem dX6_go_163 : decode cX6_go 163 = .ok (.iconst 3, 1) := by decide +kernel
theorem dX6_go_164 : decode cX6_go 164 = .ok (.dup2, 1) := by decide +kernel
theorem dX6_go_165 : decode cX6_go 165 = .ok (.laload, 1) := by decide +kernel
theorem dX6_go_166 : decode cX6_go 166 = .ok (.lload 12, 2) := by decide +kernel
theorem dX6_go_168 : decode cX6_go 168 = .ok (.aload_n 0, 1) := by decide +kernel
theorem dX6_go_169 : decode cX6_go 169 = .ok (.getfield 154, 3) := by decide +kernel
theorem dX6_go_172 : decode cX6_go 172 = .ok (.lsub, 1) := by decide +kernel
theorem dX6_go_173 : decode cX6_go 173 = .ok (.ladd, 1) := by decide +kernel
theorem dX6_go_174 : decode cX6_go 174 = .ok (.lastore, 1) := by decide +kernel
theorem dX6_go_175 : decode cX6_go 175 = .ok (.aload_n 0, 1) := by decide +kernel
theorem dX6_go_176 : decode cX6_go 176 = .ok (.lload 12, 2) := by decide +kernel
theorem dX6_go_178 : decode cX6_go 178 = .ok (.putfield 154, 3) := by decide +kernel
theorem dX6_go_181 : decode cX6_go 181 = .ok (.iload 4, 2) := by decide +kernel
theorem dX6_go_183 : decode cX6_go 183 = .ok (.ifCond .ne 6, 3) := by decide +kernel
theorem dX6_go_186 : decode cX6_go 186 = .ok (.goto (-144), 3) := by decide +kernel
theorem dX6_go_189 : decode cX6_go 189 = .ok (.lload 8, 2) := by decide +kernel
theorem dX6_go_191 : decode cX6_go 191 = .ok (.lload 10, 2) := by decide +kernel
theorem dX6_go_193 : decode cX6_go 193 = .ok (.lcmp, 1) := by decide +kernel
theorem dX6_go_194 : decode cX6_go 194 = .ok (.ifCond .ne 26, 3) := by decide +kernel
theorem dX6_go_197 : decode cX6_go 197 = .ok (.aload_n 0, 1) := by decide +kernel
theorem dX6_go_198 : decode cX6_go 198 = .ok (.bipush 6, 2) := by decide +kernel
theorem dX6_go_200 : decode cX6_go 200 = .ok (.aload_n 0, 1) := by decide +kernel
theorem dX6_go_201 : decode cX6_go 201 = .ok (.iconst 5, 1) := by decide +kernel
theorem dX6_go_202 : decode cX6_go 202 = .ok (.invokevirtual 126, 3) := by decide +kernel
theorem dX6_go_205 : decode cX6_go 205 = .ok (.invokevirtual 158, 3) := by decide +kernel
theorem dX6_go_208 : decode cX6_go 208 = .ok (.aload_n 0, 1) := by decide +kernel
theorem dX6_go_209 : decode cX6_go 209 = .ok (.getfield 40, 3) := by decide +kernel
theorem dX6_go_212 : decode cX6_go 212 = .ok (.iconst 5, 1) := by decide +kernel
theorem dX6_go_213 : decode cX6_go 213 = .ok (.ldc2_w 78, 3) := by decide +kernel
theorem dX6_go_216 : decode cX6_go 216 = .ok (.lastore, 1) := by decide +kernel
theorem dX6_go_217 : decode cX6_go 217 = .ok (.goto 7, 3) := by decide +kernel
theorem dX6_go_220 : decode cX6_go 220 = .ok (.aload_n 0, 1) := by decide +kernel
theorem dX6_go_221 : decode cX6_go 221 = .ok (.invokevirtual 191, 3) := by decide +kernel
theorem dX6_go_224 : decode cX6_go 224 = .ok (.goto (-182), 3) := by decide +kernel
theorem dX6_go_227 : decode cX6_go 227 = .ok (.aload_n 0, 1) := by decide +kernel
theorem dX6_go_228 : decode cX6_go 228 = .ok (.getfield 154, 3) := by decide +kernel
theorem dX6_go_231 : decode cX6_go 231 = .ok (.lreturn, 1) := by decide +kernel
theorem dX6_now_0 : decode cX6_now 0 = .ok (.aload_n 0, 1) := by decide +kernel
theorem dX6_now_1 : decode cX6_now 1 = .ok (.iconst 0, 1) := by decide +kernel
theorem dX6_now_2 : decode cX6_now 2 = .ok (.putfield 80, 3) := by decide +kernel
theorem dX6_now_5 : decode cX6_now 5 = .ok (.aload_n 0, 1) := by decide +kernel
theorem dX6_now_6 : decode cX6_now 6 = .ok (.iload_n 1, 1) := by decide +kernel
theorem dX6_now_7 : decode cX6_now 7 = .ok (.ifCond .lt 13, 3) := by decide +kernel
theorem dX6_now_10 : decode cX6_now 10 = .ok (.iload_n 1, 1) := by decide +kernel
theorem dX6_now_11 : decode cX6_now 11 = .ok (.bipush 10, 2) := by decide +kernel
theorem dX6_now_13 : decode cX6_now 13 = .ok (.if_icmp .gt 7, 3) := by decide +kernel
theorem dX6_now_16 : decode cX6_now 16 = .ok (.iconst 1, 1) := by decide +kernel
theorem dX6_now_17 : decode cX6_now 17 = .ok (.goto 4, 3) := by decide +kernel
theorem dX6_now_20 : decode cX6_now 20 = .ok (.iconst 0, 1) := by decide +kernel
theorem dX6_now_21 : decode cX6_now 21 = .ok (.iconst 1, 1) := by decide +kernel
theorem dX6_now_22 : decode cX6_now 22 = .ok (.invokevirtual 87, 3) := by decide +kernel
theorem dX6_now_25 : decode cX6_now 25 = .ok (.ifCond .ne 5, 3) := by decide +kernel
theorem dX6_now_28 : decode cX6_now 28 = .ok (.iconst 0, 1) := by decide +kernel
theorem dX6_now_29 : decode cX6_now 29 = .ok (.ireturn, 1) := by decide +kernel
theorem dX6_now_30 : decode cX6_now 30 = .ok (.iload_n 1, 1) := by decide +kernel
theorem dX6_now_31 : decode cX6_now 31 = .ok (.tableswitch 127 0 9 #[53, 59, 65, 71, 77, 83, 89, 96, 101, 122], 53) := by decide +kernel
theorem dX6_now_84 : decode cX6_now 84 = .ok (.aload_n 0, 1) := by decide +kernel
theorem dX6_now_85 : decode cX6_now 85 = .ok (.iconst 0, 1) := by decide +kernel
theorem dX6_now_86 : decode cX6_now 86 = .ok (.invokevirtual 126, 3) := by decide +kernel
theorem dX6_now_89 : decode cX6_now 89 = .ok (.ireturn, 1) := by decide +kernel
theorem dX6_now_90 : decode cX6_now 90 = .ok (.aload_n 0, 1) := by decide +kernel
theorem dX6_now_91 : decode cX6_now 91 = .ok (.iconst 1, 1) := by decide +kernel
theorem dX6_now_92 : decode cX6_now 92 = .ok (.invokevirtual 126, 3) := by decide +kernel
theorem dX6_now_95 : decode cX6_now 95 = .ok (.ireturn, 1) := by decide +kernel
theorem dX6_now_96 : decode cX6_now 96 = .ok (.aload_n 0, 1) := by decide +kernel
theorem dX6_now_97 : decode cX6_now 97 = .ok (.iconst 2, 1) := by decide +kernel
theorem dX6_now_98 : decode cX6_now 98 = .ok (.invokevirtual 126, 3) := by decide +kernel
theorem dX6_now_101 : decode cX6_now 101 = .ok (.ireturn, 1) := by decide +kernel
theorem dX6_now_102 : decode cX6_now 102 = .ok (.aload_n 0, 1) := by decide +kernel
theorem dX6_now_103 : decode cX6_now 103 = .ok (.iconst 3, 1) := by decide +kernel
theorem dX6_now_104 : decode cX6_now 104 = .ok (.invokevirtual 126, 3) := by decide +kernel
theorem dX6_now_107 : decode cX6_now 107 = .ok (.ireturn, 1) := by decide +kernel
theorem dX6_now_108 : decode cX6_now 108 = .ok (.aload_n 0, 1) := by decide +kernel
theorem dX6_now_109 : decode cX6_now 109 = .ok (.iconst 4, 1) := by decide +kernel
theorem dX6_now_110 : decode cX6_now 110 = .ok (.invokevirtual 126, 3) := by decide +kernel
theorem dX6_now_113 : decode cX6_now 113 = .ok (.ireturn, 1) := by decide +kernel
theorem dX6_now_114 : decode cX6_now 114 = .ok (.aload_n 0, 1) := by decide +kernel
theorem dX6_now_115 : decode cX6_now 115 = .ok (.iconst 5, 1) := by decide +kernel
theorem dX6_now_116 : decode cX6_now 116 = .ok (.invokevirtual 126, 3) := by decide +kernel
theorem dX6_now_119 : decode cX6_now 119 = .ok (.ireturn, 1) := by decide +kernel
theorem dX6_now_120 : decode cX6_now 120 = .ok (.aload_n 0, 1) := by decide +kernel
theorem dX6_now_121 : decode cX6_now 121 = .ok (.bipush 6, 2) := by decide +kernel
theorem dX6_now_123 : decode cX6_now 123 = .ok (.invokevirtual 126, 3) := by decide +kernel
theorem dX6_now_126 : decode cX6_now 126 = .ok (.ireturn, 1) := by decide +kernel
theorem dX6_now_127 : decode cX6_now 127 = .ok (.aload_n 0, 1) := by decide +kernel
theorem dX6_now_128 : decode cX6_now 128 = .ok (.invokevirtual 184, 3) := by decide +kernel
theorem dX6_now_131 : decode cX6_now 131 = .ok (.ireturn, 1) := by decide +kernel
theorem dX6_now_132 : decode cX6_now 132 = .ok (.aload_n 0, 1) := by decide +kernel
theorem dX6_now_133 : decode cX6_now 133 = .ok (.getfield 151, 3) := by decide +kernel
theorem dX6_now_136 : decode cX6_now 136 = .ok (.sipush 300, 3) := by decide +kernel
theorem dX6_now_139 : decode cX6_now 139 = .ok (.if_icmp .ge 10, 3) := by decide +kernel
theorem dX6_now_142 : decode cX6_now 142 = .ok (.aload_n 0, 1) := by decide +kernel
theorem dX6_now_143 : decode cX6_now 143 = .ok (.getfield 151, 3) := by decide +kernel
theorem dX6_now_146 : decode cX6_now 146 = .ok (.goto 6, 3) := by decide +kernel
theorem dX6_now_149 : decode cX6_now 149 = .ok (.sipush 300, 3) := by decide +kernel
theorem dX6_now_152 : decode cX6_now 152 = .ok (.ireturn, 1) := by decide +kernel
theorem dX6_now_153 : decode cX6_now 153 = .ok (.aload_n 0, 1) := by decide +kernel
theorem dX6_now_154 : decode cX6_now 154 = .ok (.getfield 84, 3) := by decide +kernel
theorem dX6_now_157 : decode cX6_now 157 = .ok (.ireturn, 1) := by decide +kernel
theorem dX6_now_158 : decode cX6_now 158 = .ok (.aload_n 0, 1) := by decide +kernel
theorem dX6_now_159 : decode cX6_now 159 = .ok (.getfield 98, 3) := by decide +kernel
theorem dX6_now_162 : decode cX6_now 162 = .ok (.ireturn, 1) := by decide +kernel
theorem dX6_level_0 : decode cX6_level 0 = .ok (.aload_n 0, 1) := by decide +kernel
theorem dX6_level_1 : decode cX6_level 1 = .ok (.iconst 0, 1) := by decide +kernel
theorem dX6_level_2 : decode cX6_level 2 = .ok (.putfield 80, 3) := by decide +kernel
theorem dX6_level_5 : decode cX6_level 5 = .ok (.aload_n 0, 1) := by decide +kernel
theorem dX6_level_6 : decode cX6_level 6 = .ok (.iload_n 1, 1) := by decide +kernel
theorem dX6_level_7 : decode cX6_level 7 = .ok (.invokevirtual 94, 3) := by decide +kernel
theorem dX6_level_10 : decode cX6_level 10 = .ok (.ifCond .eq 14, 3) := by decide +kernel
theorem dX6_level_13 : decode cX6_level 13 = .ok (.aload_n 0, 1) := by decide +kernel
theorem dX6_level_14 : decode cX6_level 14 = .ok (.bipush 36, 2) := by decide +kernel
theorem dX6_level_16 : decode cX6_level 16 = .ok (.iload_n 1, 1) := by decide +kernel
theorem dX6_level_17 : decode cX6_level 17 = .ok (.iadd, 1) := by decide +kernel
theorem dX6_level_18 : decode cX6_level 18 = .ok (.invokevirtual 126, 3) := by decide +kernel
theorem dX6_level_21 : decode cX6_level 21 = .ok (.goto 4, 3) := by decide +kernel
theorem dX6_level_24 : decode cX6_level 24 = .ok (.iconst 0, 1) := by decide +kernel
theorem dX6_level_25 : decode cX6_level 25 = .ok (.ireturn, 1) := by decide +kernel
theorem dX6_log_0 : decode cX6_log 0 = .ok (.aload_n 0, 1) := by decide +kernel
theorem dX6_log_1 : decode cX6_log 1 = .ok (.iconst 0, 1) := by decide +kernel
theorem dX6_log_2 : decode cX6_log 2 = .ok (.putfield 80, 3) := by decide +kernel
theorem dX6_log_5 : decode cX6_log 5 = .ok (.aload_n 0, 1) := by decide +kernel
theorem dX6_log_6 : decode cX6_log 6 = .ok (.getfield 151, 3) := by decide +kernel
theorem dX6_log_9 : decode cX6_log 9 = .ok (.sipush 300, 3) := by decide +kernel
theorem dX6_log_12 : decode cX6_log 12 = .ok (.if_icmp .ge 10, 3) := by decide +kernel
theorem dX6_log_15 : decode cX6_log 15 = .ok (.aload_n 0, 1) := by decide +kernel
theorem dX6_log_16 : decode cX6_log 16 = .ok (.getfield 151, 3) := by decide +kernel
theorem dX6_log_19 : decode cX6_log 19 = .ok (.goto 6, 3) := by decide +kernel
theorem dX6_log_22 : decode cX6_log 22 = .ok (.sipush 300, 3) := by decide +kernel
theorem dX6_log_25 : decode cX6_log 25 = .ok (.istore_n 3, 1) := by decide +kernel
theorem dX6_log_26 : decode cX6_log 26 = .ok (.aload_n 0, 1) := by decide +kernel
theorem dX6_log_27 : decode cX6_log 27 = .ok (.iload_n 1, 1) := by decide +kernel
theorem dX6_log_28 : decode cX6_log 28 = .ok (.ifCond .lt 21, 3) := by decide +kernel
theorem dX6_log_31 : decode cX6_log 31 = .ok (.iload_n 1, 1) := by decide +kernel
theorem dX6_log_32 : decode cX6_log 32 = .ok (.iload_n 3, 1) := by decide +kernel
theorem dX6_log_33 : decode cX6_log 33 = .ok (.if_icmp .ge 16, 3) := by decide +kernel
theorem dX6_log_36 : decode cX6_log 36 = .ok (.iload_n 2, 1) := by decide +kernel
theorem dX6_log_37 : decode cX6_log 37 = .ok (.ifCond .lt 12, 3) := by decide +kernel
theorem dX6_log_40 : decode cX6_log 40 = .ok (.iload_n 2, 1) := by decide +kernel
theorem dX6_log_41 : decode cX6_log 41 = .ok (.iconst 2, 1) := by decide +kernel
theorem dX6_log_42 : decode cX6_log 42 = .ok (.if_icmp .gt 7, 3) := by decide +kernel
theorem dX6_log_45 : decode cX6_log 45 = .ok (.iconst 1, 1) := by decide +kernel
theorem dX6_log_46 : decode cX6_log 46 = .ok (.goto 4, 3) := by decide +kernel
theorem dX6_log_49 : decode cX6_log 49 = .ok (.iconst 0, 1) := by decide +kernel
theorem dX6_log_50 : decode cX6_log 50 = .ok (.iconst 1, 1) := by decide +kernel
theorem dX6_log_51 : decode cX6_log 51 = .ok (.invokevirtual 87, 3) := by decide +kernel
theorem dX6_log_54 : decode cX6_log 54 = .ok (.ifCond .ne 5, 3) := by decide +kernel
theorem dX6_log_57 : decode cX6_log 57 = .ok (.lconst 0, 1) := by decide +kernel
theorem dX6_log_58 : decode cX6_log 58 = .ok (.lreturn, 1) := by decide +kernel
theorem dX6_log_59 : decode cX6_log 59 = .ok (.aload_n 0, 1) := by decide +kernel
theorem dX6_log_60 : decode cX6_log 60 = .ok (.getfield 151, 3) := by decide +kernel
theorem dX6_log_63 : decode cX6_log 63 = .ok (.iload_n 3, 1) := by decide +kernel
theorem dX6_log_64 : decode cX6_log 64 = .ok (.isub, 1) := by decide +kernel
theorem dX6_log_65 : decode cX6_log 65 = .ok (.iload_n 1, 1) := by decide +kernel
theorem dX6_log_66 : decode cX6_log 66 = .ok (.iadd, 1) := by decide +kernel
theorem dX6_log_67 : decode cX6_log 67 = .ok (.sipush 300, 3) := by decide +kernel
theorem dX6_log_70 : decode cX6_log 70 = .ok (.irem, 1) := by decide +kernel
theorem dX6_log_71 : decode cX6_log 71 = .ok (.istore 4, 2) := by decide +kernel
theorem dX6_log_73 : decode cX6_log 73 = .ok (.iload_n 2, 1) := by decide +kernel
theorem dX6_log_74 : decode cX6_log 74 = .ok (.ifCond .ne 13, 3) := by decide +kernel
theorem dX6_log_77 : decode cX6_log 77 = .ok (.aload_n 0, 1) := by decide +kernel
theorem dX6_log_78 : decode cX6_log 78 = .ok (.getfield 60, 3) := by decide +kernel
theorem dX6_log_81 : decode cX6_log 81 = .ok (.iload 4, 2) := by decide +kernel
theorem dX6_log_83 : decode cX6_log 83 = .ok (.laload, 1) := by decide +kernel
theorem dX6_log_84 : decode cX6_log 84 = .ok (.goto 27, 3) := by decide +kernel
theorem dX6_log_87 : decode cX6_log 87 = .ok (.iload_n 2, 1) := by decide +kernel
theorem dX6_log_88 : decode cX6_log 88 = .ok (.iconst 1, 1) := by decide +kernel
theorem dX6_log_89 : decode cX6_log 89 = .ok (.if_icmp .ne 14, 3) := by decide +kernel
theorem dX6_log_92 : decode cX6_log 92 = .ok (.aload_n 0, 1) := by decide +kernel
theorem dX6_log_93 : decode cX6_log 93 = .ok (.getfield 63, 3) := by decide +kernel
theorem dX6_log_96 : decode cX6_log 96 = .ok (.iload 4, 2) := by decide +kernel
theorem dX6_log_98 : decode cX6_log 98 = .ok (.iaload, 1) := by decide +kernel
theorem dX6_log_99 : decode cX6_log 99 = .ok (.i2l, 1) := by decide +kernel
theorem dX6_log_100 : decode cX6_log 100 = .ok (.goto 11, 3) := by decide +kernel
theorem dX6_log_103 : decode cX6_log 103 = .ok (.aload_n 0, 1) := by decide +kernel
theorem dX6_log_104 : decode cX6_log 104 = .ok (.getfield 66, 3) := by decide +kernel
theorem dX6_log_107 : decode cX6_log 107 = .ok (.iload 4, 2) := by decide +kernel
theorem dX6_log_109 : decode cX6_log 109 = .ok (.iaload, 1) := by decide +kernel
theorem dX6_log_110 : decode cX6_log 110 = .ok (.i2l, 1) := by decide +kernel
theorem dX6_log_111 : decode cX6_log 111 = .ok (.lreturn, 1) := by decide +kernel
theorem dX6_isSlot_0 : decode cX6_isSlot 0 = .ok (.aload_n 0, 1) := by decide +kernel
theorem dX6_isSlot_1 : decode cX6_isSlot 1 = .ok (.iconst 0, 1) := by decide +kernel
theorem dX6_isSlot_2 : decode cX6_isSlot 2 = .ok (.putfield 80, 3) := by decide +kernel
theorem dX6_isSlot_5 : decode cX6_isSlot 5 = .ok (.aload_n 0, 1) := by decide +kernel
theorem dX6_isSlot_6 : decode cX6_isSlot 6 = .ok (.iload_n 1, 1) := by decide +kernel
theorem dX6_isSlot_7 : decode cX6_isSlot 7 = .ok (.ifCond .lt 12, 3) := by decide +kernel
theorem dX6_isSlot_10 : decode cX6_isSlot 10 = .ok (.iload_n 1, 1) := by decide +kernel
theorem dX6_isSlot_11 : decode cX6_isSlot 11 = .ok (.iconst 3, 1) := by decide +kernel
theorem dX6_isSlot_12 : decode cX6_isSlot 12 = .ok (.if_icmp .gt 7, 3) := by decide +kernel
theorem dX6_isSlot_15 : decode cX6_isSlot 15 = .ok (.iconst 1, 1) := by decide +kernel
theorem dX6_isSlot_16 : decode cX6_isSlot 16 = .ok (.goto 4, 3) := by decide +kernel
theorem dX6_isSlot_19 : decode cX6_isSlot 19 = .ok (.iconst 0, 1) := by decide +kernel
theorem dX6_isSlot_20 : decode cX6_isSlot 20 = .ok (.iconst 1, 1) := by decide +kernel
theorem dX6_isSlot_21 : decode cX6_isSlot 21 = .ok (.invokevirtual 87, 3) := by decide +kernel
theorem dX6_isSlot_24 : decode cX6_isSlot 24 = .ok (.ireturn, 1) := by decide +kernel
theorem dX6_keep_0 : decode cX6_keep 0 = .ok (.aload_n 0, 1) := by decide +kernel
theorem dX6_keep_1 : decode cX6_keep 1 = .ok (.iload_n 1, 1) := by decide +kernel
theorem dX6_keep_2 : decode cX6_keep 2 = .ok (.invokevirtual 194, 3) := by decide +kernel
theorem dX6_keep_5 : decode cX6_keep 5 = .ok (.ifCond .ne 5, 3) := by decide +kernel
theorem dX6_keep_8 : decode cX6_keep 8 = .ok (.iconst 0, 1) := by decide +kernel
theorem dX6_keep_9 : decode cX6_keep 9 = .ok (.ireturn, 1) := by decide +kernel
theorem dX6_keep_10 : decode cX6_keep 10 = .ok (.aload_n 0, 1) := by decide +kernel
theorem dX6_keep_11 : decode cX6_keep 11 = .ok (.getfield 53, 3) := by decide +kernel
theorem dX6_keep_14 : decode cX6_keep 14 = .ok (.iload_n 1, 1) := by decide +kernel
theorem dX6_keep_15 : decode cX6_keep 15 = .ok (.baload, 1) := by decide +kernel
theorem dX6_keep_16 : decode cX6_keep 16 = .ok (.istore_n 2, 1) := by decide +kernel
theorem dX6_keep_17 : decode cX6_keep 17 = .ok (.aload_n 0, 1) := by decide +kernel
theorem dX6_keep_18 : decode cX6_keep 18 = .ok (.getfield 53, 3) := by decide +kernel
theorem dX6_keep_21 : decode cX6_keep 21 = .ok (.iload_n 1, 1) := by decide +kernel
theorem dX6_keep_22 : decode cX6_keep 22 = .ok (.iconst 1, 1) := by decide +kernel
theorem dX6_keep_23 : decode cX6_keep 23 = .ok (.bastore, 1) := by decide +kernel
theorem dX6_keep_24 : decode cX6_keep 24 = .ok (.iconst 0, 1) := by decide +kernel
theorem dX6_keep_25 : decode cX6_keep 25 = .ok (.istore_n 3, 1) := by decide +kernel
theorem dX6_keep_26 : decode cX6_keep 26 = .ok (.iload_n 3, 1) := by decide +kernel
theorem dX6_keep_27 : decode cX6_keep 27 = .ok (.bipush 56, 2) := by decide +kernel
theorem dX6_keep_29 : decode cX6_keep 29 = .ok (.if_icmp .ge 26, 3) := by decide +kernel
theorem dX6_keep_32 : decode cX6_keep 32 = .ok (.aload_n 0, 1) := by decide +kernel
theorem dX6_keep_33 : decode cX6_keep 33 = .ok (.getfield 44, 3) := by decide +kernel
theorem dX6_keep_36 : decode cX6_keep 36 = .ok (.bipush 56, 2) := by decide +kernel
theorem dX6_keep_38 : decode cX6_keep 38 = .ok (.iload_n 1, 1) := by decide +kernel
theorem dX6_keep_39 : decode cX6_keep 39 = .ok (.imul, 1) := by decide +kernel
theorem dX6_keep_40 : decode cX6_keep 40 = .ok (.iload_n 3, 1) := by decide +kernel
theorem dX6_keep_41 : decode cX6_keep 41 = .ok (.iadd, 1) := by decide +kernel
theorem dX6_keep_42 : decode cX6_keep 42 = .ok (.aload_n 0, 1) := by decide +kernel
theorem dX6_keep_43 : decode cX6_keep 43 = .ok (.getfield 40, 3) := by decide +kernel
theorem dX6_keep_46 : decode cX6_keep 46 = .ok (.iload_n 3, 1) := by decide +kernel
theorem dX6_keep_47 : decode cX6_keep 47 = .ok (.laload, 1) := by decide +kernel
theorem dX6_keep_48 : decode cX6_keep 48 = .ok (.lastore, 1) := by decide +kernel
theorem dX6_keep_49 : decode cX6_keep 49 = .ok (.iinc 3 1, 3) := by decide +kernel
theorem dX6_keep_52 : decode cX6_keep 52 = .ok (.goto (-26), 3) := by decide +kernel
theorem dX6_keep_55 : decode cX6_keep 55 = .ok (.aload_n 0, 1) := by decide +kernel
theorem dX6_keep_56 : decode cX6_keep 56 = .ok (.getfield 47, 3) := by decide +kernel
theorem dX6_keep_59 : decode cX6_keep 59 = .ok (.iload_n 1, 1) := by decide +kernel
theorem dX6_keep_60 : decode cX6_keep 60 = .ok (.aload_n 0, 1) := by decide +kernel
theorem dX6_keep_61 : decode cX6_keep 61 = .ok (.getfield 154, 3) := by decide +kernel
theorem dX6_keep_64 : decode cX6_keep 64 = .ok (.lastore, 1) := by decide +kernel
theorem dX6_keep_65 : decode cX6_keep 65 = .ok (.aload_n 0, 1) := by decide +kernel
theorem dX6_keep_66 : decode cX6_keep 66 = .ok (.getfield 50, 3) := by decide +kernel
theorem dX6_keep_69 : decode cX6_keep 69 = .ok (.iload_n 1, 1) := by decide +kernel
theorem dX6_keep_70 : decode cX6_keep 70 = .ok (.aload_n 0, 1) := by decide +kernel
theorem dX6_keep_71 : decode cX6_keep 71 = .ok (.getfield 188, 3) := by decide +kernel
theorem dX6_keep_74 : decode cX6_keep 74 = .ok (.lastore, 1) := by decide +kernel
theorem dX6_keep_75 : decode cX6_keep 75 = .ok (.iload_n 2, 1) := by decide +kernel
theorem dX6_keep_76 : decode cX6_keep 76 = .ok (.ireturn, 1) := by decide +kernel
theorem dX6_goOn_0 : decode cX6_goOn 0 = .ok (.aload_n 0, 1) := by decide +kernel
theorem dX6_goOn_1 : decode cX6_goOn 1 = .ok (.iload_n 1, 1) := by decide +kernel
theorem dX6_goOn_2 : decode cX6_goOn 2 = .ok (.invokevirtual 194, 3) := by decide +kernel
theorem dX6_goOn_5 : decode cX6_goOn 5 = .ok (.ifCond .eq 12, 3) := by decide +kernel
theorem dX6_goOn_8 : decode cX6_goOn 8 = .ok (.aload_n 0, 1) := by decide +kernel
theorem dX6_goOn_9 : decode cX6_goOn 9 = .ok (.getfield 53, 3) := by decide +kernel
theorem dX6_goOn_12 : decode cX6_goOn 12 = .ok (.iload_n 1, 1) := by decide +kernel
theorem dX6_goOn_13 : decode cX6_goOn 13 = .ok (.baload, 1) := by decide +kernel
theorem dX6_goOn_14 : decode cX6_goOn 14 = .ok (.ifCond .ne 5, 3) := by decide +kernel
theorem dX6_goOn_17 : decode cX6_goOn 17 = .ok (.iconst 0, 1) := by decide +kernel
theorem dX6_goOn_18 : decode cX6_goOn 18 = .ok (.ireturn, 1) := by decide +kernel
theorem dX6_goOn_19 : decode cX6_goOn 19 = .ok (.iconst 0, 1) := by decide +kernel
theorem dX6_goOn_20 : decode cX6_goOn 20 = .ok (.istore_n 2, 1) := by decide +kernel
theorem dX6_goOn_21 : decode cX6_goOn 21 = .ok (.iload_n 2, 1) := by decide +kernel
theorem dX6_goOn_22 : decode cX6_goOn 22 = .ok (.bipush 56, 2) := by decide +kernel
theorem dX6_goOn_24 : decode cX6_goOn 24 = .ok (.if_icmp .ge 26, 3) := by decide +kernel
theorem dX6_goOn_27 : decode cX6_goOn 27 = .ok (.aload_n 0, 1) := by decide +kernel
theorem dX6_goOn_28 : decode cX6_goOn 28 = .ok (.getfield 40, 3) := by decide +kernel
theorem dX6_goOn_31 : decode cX6_goOn 31 = .ok (.iload_n 2, 1) := by decide +kernel
theorem dX6_goOn_32 : decode cX6_goOn 32 = .ok (.aload_n 0, 1) := by decide +kernel
theorem dX6_goOn_33 : decode cX6_goOn 33 = .ok (.getfield 44, 3) := by decide +kernel
theorem dX6_goOn_36 : decode cX6_goOn 36 = .ok (.bipush 56, 2) := by decide +kernel
theorem dX6_goOn_38 : decode cX6_goOn 38 = .ok (.iload_n 1, 1) := by decide +kernel
theorem dX6_goOn_39 : decode cX6_goOn 39 = .ok (.imul, 1) := by decide +kernel
theorem dX6_goOn_40 : decode cX6_goOn 40 = .ok (.iload_n 2, 1) := by decide +kernel
theorem dX6_goOn_41 : decode cX6_goOn 41 = .ok (.iadd, 1) := by decide +kernel
theorem dX6_goOn_42 : decode cX6_goOn 42 = .ok (.laload, 1) := by decide +kernel
theorem dX6_goOn_43 : decode cX6_goOn 43 = .ok (.lastore, 1) := by decide +kernel
theorem dX6_goOn_44 : decode cX6_goOn 44 = .ok (.iinc 2 1, 3) := by decide +kernel
theorem dX6_goOn_47 : decode cX6_goOn 47 = .ok (.goto (-26), 3) := by decide +kernel
theorem dX6_goOn_50 : decode cX6_goOn 50 = .ok (.aload_n 0, 1) := by decide +kernel
theorem dX6_goOn_51 : decode cX6_goOn 51 = .ok (.aload_n 0, 1) := by decide +kernel
theorem dX6_goOn_52 : decode cX6_goOn 52 = .ok (.getfield 47, 3) := by decide +kernel
theorem dX6_goOn_55 : decode cX6_goOn 55 = .ok (.iload_n 1, 1) := by decide +kernel
theorem dX6_goOn_56 : decode cX6_goOn 56 = .ok (.laload, 1) := by decide +kernel
theorem dX6_goOn_57 : decode cX6_goOn 57 = .ok (.putfield 154, 3) := by decide +kernel
theorem dX6_goOn_60 : decode cX6_goOn 60 = .ok (.aload_n 0, 1) := by decide +kernel
theorem dX6_goOn_61 : decode cX6_goOn 61 = .ok (.aload_n 0, 1) := by decide +kernel
theorem dX6_goOn_62 : decode cX6_goOn 62 = .ok (.getfield 50, 3) := by decide +kernel
theorem dX6_goOn_65 : decode cX6_goOn 65 = .ok (.iload_n 1, 1) := by decide +kernel
theorem dX6_goOn_66 : decode cX6_goOn 66 = .ok (.laload, 1) := by decide +kernel
theorem dX6_goOn_67 : decode cX6_goOn 67 = .ok (.putfield 188, 3) := by decide +kernel
theorem dX6_goOn_70 : decode cX6_goOn 70 = .ok (.aload_n 0, 1) := by decide +kernel
theorem dX6_goOn_71 : decode cX6_goOn 71 = .ok (.invokevirtual 91, 3) := by decide +kernel
theorem dX6_goOn_74 : decode cX6_goOn 74 = .ok (.iconst 1, 1) := by decide +kernel
theorem dX6_goOn_75 : decode cX6_goOn 75 = .ok (.ireturn, 1) := by decide +kernel
theorem dJ9_min_f86c9_0 : decode cJ9_min_f86c9 0 = .ok (.lload_n 0, 1) := by decide +kernel
theorem dJ9_min_f86c9_1 : decode cJ9_min_f86c9 1 = .ok (.lload_n 2, 1) := by decide +kernel
theorem dJ9_min_f86c9_2 : decode cJ9_min_f86c9 2 = .ok (.lcmp, 1) := by decide +kernel
theorem dJ9_min_f86c9_3 : decode cJ9_min_f86c9 3 = .ok (.ifCond .gt 7, 3) := by decide +kernel
theorem dJ9_min_f86c9_6 : decode cJ9_min_f86c9 6 = .ok (.lload_n 0, 1) := by decide +kernel
theorem dJ9_min_f86c9_7 : decode cJ9_min_f86c9 7 = .ok (.goto 4, 3) := by decide +kernel
theorem dJ9_min_f86c9_10 : decode cJ9_min_f86c9 10 = .ok (.lload_n 2, 1) := by decide +kernel
theorem dJ9_min_f86c9_11 : decode cJ9_min_f86c9 11 = .ok (.lreturn, 1) := by decide +kernel
theorem dJ7_fill_53178_0 : decode cJ7_fill_53178 0 = .ok (.iconst 0, 1) := by decide +kernel
theorem dJ7_fill_53178_1 : decode cJ7_fill_53178 1 = .ok (.istore_n 2, 1) := by decide +kernel
theorem dJ7_fill_53178_2 : decode cJ7_fill_53178 2 = .ok (.aload_n 0, 1) := by decide +kernel
theorem dJ7_fill_53178_3 : decode cJ7_fill_53178 3 = .ok (.arraylength, 1) := by decide +kernel
theorem dJ7_fill_53178_4 : decode cJ7_fill_53178 4 = .ok (.istore_n 3, 1) := by decide +kernel
theorem dJ7_fill_53178_5 : decode cJ7_fill_53178 5 = .ok (.iload_n 2, 1) := by decide +kernel
theorem dJ7_fill_53178_6 : decode cJ7_fill_53178 6 = .ok (.iload_n 3, 1) := by decide +kernel
theorem dJ7_fill_53178_7 : decode cJ7_fill_53178 7 = .ok (.if_icmp .ge 13, 3) := by decide +kernel
theorem dJ7_fill_53178_10 : decode cJ7_fill_53178 10 = .ok (.aload_n 0, 1) := by decide +kernel
theorem dJ7_fill_53178_11 : decode cJ7_fill_53178 11 = .ok (.iload_n 2, 1) := by decide +kernel
theorem dJ7_fill_53178_12 : decode cJ7_fill_53178 12 = .ok (.iload_n 1, 1) := by decide +kernel
theorem dJ7_fill_53178_13 : decode cJ7_fill_53178 13 = .ok (.iastore, 1) := by decide +kernel
theorem dJ7_fill_53178_14 : decode cJ7_fill_53178 14 = .ok (.iinc 2 1, 3) := by decide +kernel
theorem dJ7_fill_53178_17 : decode cJ7_fill_53178 17 = .ok (.goto (-12), 3) := by decide +kernel
theorem dJ7_fill_53178_20 : decode cJ7_fill_53178 20 = .ok (.return_, 1) := by decide +kernel
theorem dL_joint_0 : decode cL_joint 0 = .ok (.aload 5, 2) := by decide +kernel
theorem dL_joint_2 : decode cL_joint 2 = .ok (.iconst 0, 1) := by decide +kernel
theorem dL_joint_3 : decode cL_joint 3 = .ok (.aload_n 0, 1) := by decide +kernel
theorem dL_joint_4 : decode cL_joint 4 = .ok (.iload_n 1, 1) := by decide +kernel
theorem dL_joint_5 : decode cL_joint 5 = .ok (.iload_n 2, 1) := by decide +kernel
theorem dL_joint_6 : decode cL_joint 6 = .ok (.iload_n 3, 1) := by decide +kernel
theorem dL_joint_7 : decode cL_joint 7 = .ok (.iload 4, 2) := by decide +kernel
theorem dL_joint_9 : decode cL_joint 9 = .ok (.invokevirtual 7, 3) := by decide +kernel
theorem dL_joint_12 : decode cL_joint 12 = .ok (.i2l, 1) := by decide +kernel
theorem dL_joint_13 : decode cL_joint 13 = .ok (.lastore, 1) := by decide +kernel
theorem dL_joint_14 : decode cL_joint 14 = .ok (.goto 7, 3) := by decide +kernel
theorem dL_joint_17 : decode cL_joint 17 = .ok (.astore 6, 2) := by decide +kernel
theorem dL_joint_19 : decode cL_joint 19 = .ok (.iconst 1, 1) := by decide +kernel
theorem dL_joint_20 : decode cL_joint 20 = .ok (.ireturn, 1) := by decide +kernel
theorem dL_joint_21 : decode cL_joint 21 = .ok (.iconst 0, 1) := by decide +kernel
theorem dL_joint_22 : decode cL_joint 22 = .ok (.ireturn, 1) := by decide +kernel
theorem dL_price_0 : decode cL_price 0 = .ok (.aload_n 3, 1) := by decide +kernel
theorem dL_price_1 : decode cL_price 1 = .ok (.iconst 0, 1) := by decide +kernel
theorem dL_price_2 : decode cL_price 2 = .ok (.aload_n 0, 1) := by decide +kernel
theorem dL_price_3 : decode cL_price 3 = .ok (.iload_n 1, 1) := by decide +kernel
theorem dL_price_4 : decode cL_price 4 = .ok (.iload_n 2, 1) := by decide +kernel
theorem dL_price_5 : decode cL_price 5 = .ok (.invokevirtual 15, 3) := by decide +kernel
theorem dL_price_8 : decode cL_price 8 = .ok (.i2l, 1) := by decide +kernel
theorem dL_price_9 : decode cL_price 9 = .ok (.lastore, 1) := by decide +kernel
theorem dL_price_10 : decode cL_price 10 = .ok (.goto 7, 3) := by decide +kernel
theorem dL_price_13 : decode cL_price 13 = .ok (.astore 4, 2) := by decide +kernel
theorem dL_price_15 : decode cL_price 15 = .ok (.iconst 1, 1) := by decide +kernel
theorem dL_price_16 : decode cL_price 16 = .ok (.ireturn, 1) := by decide +kernel
theorem dL_price_17 : decode cL_price 17 = .ok (.iconst 0, 1) := by decide +kernel
theorem dL_price_18 : decode cL_price 18 = .ok (.ireturn, 1) := by decide +kernel
theorem dL_play_0 : decode cL_play 0 = .ok (.aload_n 2, 1) := by decide +kernel
theorem dL_play_1 : decode cL_play 1 = .ok (.iconst 0, 1) := by decide +kernel
theorem dL_play_2 : decode cL_play 2 = .ok (.aload_n 0, 1) := by decide +kernel
theorem dL_play_3 : decode cL_play 3 = .ok (.iload_n 1, 1) := by decide +kernel
theorem dL_play_4 : decode cL_play 4 = .ok (.invokevirtual 21, 3) := by decide +kernel
theorem dL_play_7 : decode cL_play 7 = .ok (.ifCond .eq 7, 3) := by decide +kernel
theorem dL_play_10 : decode cL_play 10 = .ok (.lconst 1, 1) := by decide +kernel
theorem dL_play_11 : decode cL_play 11 = .ok (.goto 4, 3) := by decide +kernel
theorem dL_play_14 : decode cL_play 14 = .ok (.lconst 0, 1) := by decide +kernel
theorem dL_play_15 : decode cL_play 15 = .ok (.lastore, 1) := by decide +kernel
theorem dL_play_16 : decode cL_play 16 = .ok (.goto 6, 3) := by decide +kernel
theorem dL_play_19 : decode cL_play 19 = .ok (.astore_n 3, 1) := by decide +kernel
theorem dL_play_20 : decode cL_play 20 = .ok (.iconst 1, 1) := by decide +kernel
theorem dL_play_21 : decode cL_play 21 = .ok (.ireturn, 1) := by decide +kernel
theorem dL_play_22 : decode cL_play 22 = .ok (.iconst 0, 1) := by decide +kernel
theorem dL_play_23 : decode cL_play 23 = .ok (.ireturn, 1) := by decide +kernel
theorem dL_ask_0 : decode cL_ask 0 = .ok (.aload_n 2, 1) := by decide +kernel
theorem dL_ask_1 : decode cL_ask 1 = .ok (.iconst 0, 1) := by decide +kernel
theorem dL_ask_2 : decode cL_ask 2 = .ok (.aload_n 0, 1) := by decide +kernel
theorem dL_ask_3 : decode cL_ask 3 = .ok (.iload_n 1, 1) := by decide +kernel
theorem dL_ask_4 : decode cL_ask 4 = .ok (.invokevirtual 25, 3) := by decide +kernel
theorem dL_ask_7 : decode cL_ask 7 = .ok (.i2l, 1) := by decide +kernel
theorem dL_ask_8 : decode cL_ask 8 = .ok (.lastore, 1) := by decide +kernel
theorem dL_ask_9 : decode cL_ask 9 = .ok (.goto 6, 3) := by decide +kernel
theorem dL_ask_12 : decode cL_ask 12 = .ok (.astore_n 3, 1) := by decide +kernel
theorem dL_ask_13 : decode cL_ask 13 = .ok (.iconst 1, 1) := by decide +kernel
theorem dL_ask_14 : decode cL_ask 14 = .ok (.ireturn, 1) := by decide +kernel
theorem dL_ask_15 : decode cL_ask 15 = .ok (.iconst 0, 1) := by decide +kernel
theorem dL_ask_16 : decode cL_ask 16 = .ok (.ireturn, 1) := by decide +kernel
theorem dL_way_0 : decode cL_way 0 = .ok (.aload_n 2, 1) := by decide +kernel
theorem dL_way_1 : decode cL_way 1 = .ok (.iconst 0, 1) := by decide +kernel
theorem dL_way_2 : decode cL_way 2 = .ok (.aload_n 0, 1) := by decide +kernel
theorem dL_way_3 : decode cL_way 3 = .ok (.iload_n 1, 1) := by decide +kernel
theorem dL_way_4 : decode cL_way 4 = .ok (.invokevirtual 29, 3) := by decide +kernel
theorem dL_way_7 : decode cL_way 7 = .ok (.i2l, 1) := by decide +kernel
theorem dL_way_8 : decode cL_way 8 = .ok (.lastore, 1) := by decide +kernel
theorem dL_way_9 : decode cL_way 9 = .ok (.goto 6, 3) := by decide +kernel
theorem dL_way_12 : decode cL_way 12 = .ok (.astore_n 3, 1) := by decide +kernel
theorem dL_way_13 : decode cL_way 13 = .ok (.iconst 1, 1) := by decide +kernel
theorem dL_way_14 : decode cL_way 14 = .ok (.ireturn, 1) := by decide +kernel
theorem dL_way_15 : decode cL_way 15 = .ok (.iconst 0, 1) := by decide +kernel
theorem dL_way_16 : decode cL_way 16 = .ok (.ireturn, 1) := by decide +kernel
theorem dL_reach_0 : decode cL_reach 0 = .ok (.aload_n 3, 1) := by decide +kernel
theorem dL_reach_1 : decode cL_reach 1 = .ok (.iconst 0, 1) := by decide +kernel
theorem dL_reach_2 : decode cL_reach 2 = .ok (.aload_n 0, 1) := by decide +kernel
theorem dL_reach_3 : decode cL_reach 3 = .ok (.iload_n 1, 1) := by decide +kernel
theorem dL_reach_4 : decode cL_reach 4 = .ok (.iload_n 2, 1) := by decide +kernel
theorem dL_reach_5 : decode cL_reach 5 = .ok (.invokevirtual 32, 3) := by decide +kernel
theorem dL_reach_8 : decode cL_reach 8 = .ok (.lastore, 1) := by decide +kernel
theorem dL_reach_9 : decode cL_reach 9 = .ok (.goto 11, 3) := by decide +kernel
theorem dL_reach_12 : decode cL_reach 12 = .ok (.astore 4, 2) := by decide +kernel
theorem dL_reach_14 : decode cL_reach 14 = .ok (.iconst 1, 1) := by decide +kernel
theorem dL_reach_15 : decode cL_reach 15 = .ok (.ireturn, 1) := by decide +kernel
theorem dL_reach_16 : decode cL_reach 16 = .ok (.astore 4, 2) := by decide +kernel
theorem dL_reach_18 : decode cL_reach 18 = .ok (.iconst 2, 1) := by decide +kernel
theorem dL_reach_19 : decode cL_reach 19 = .ok (.ireturn, 1) := by decide +kernel
theorem dL_reach_20 : decode cL_reach 20 = .ok (.iconst 0, 1) := by decide +kernel
theorem dL_reach_21 : decode cL_reach 21 = .ok (.ireturn, 1) := by decide +kernel
theorem dL_lacks_0 : decode cL_lacks 0 = .ok (.aload_n 3, 1) := by decide +kernel
theorem dL_lacks_1 : decode cL_lacks 1 = .ok (.iconst 0, 1) := by decide +kernel
theorem dL_lacks_2 : decode cL_lacks 2 = .ok (.aload_n 0, 1) := by decide +kernel
theorem dL_lacks_3 : decode cL_lacks 3 = .ok (.iload_n 1, 1) := by decide +kernel
theorem dL_lacks_4 : decode cL_lacks 4 = .ok (.iload_n 2, 1) := by decide +kernel
theorem dL_lacks_5 : decode cL_lacks 5 = .ok (.invokevirtual 36, 3) := by decide +kernel
theorem dL_lacks_8 : decode cL_lacks 8 = .ok (.i2l, 1) := by decide +kernel
theorem dL_lacks_9 : decode cL_lacks 9 = .ok (.lastore, 1) := by decide +kernel
theorem dL_lacks_10 : decode cL_lacks 10 = .ok (.goto 11, 3) := by decide +kernel
theorem dL_lacks_13 : decode cL_lacks 13 = .ok (.astore 4, 2) := by decide +kernel
theorem dL_lacks_15 : decode cL_lacks 15 = .ok (.iconst 1, 1) := by decide +kernel
theorem dL_lacks_16 : decode cL_lacks 16 = .ok (.ireturn, 1) := by decide +kernel
theorem dL_lacks_17 : decode cL_lacks 17 = .ok (.astore 4, 2) := by decide +kernel
theorem dL_lacks_19 : decode cL_lacks 19 = .ok (.iconst 2, 1) := by decide +kernel
theorem dL_lacks_20 : decode cL_lacks 20 = .ok (.ireturn, 1) := by decide +kernel
theorem dL_lacks_21 : decode cL_lacks 21 = .ok (.iconst 0, 1) := by decide +kernel
theorem dL_lacks_22 : decode cL_lacks 22 = .ok (.ireturn, 1) := by decide +kernel
theorem dL_layer_0 : decode cL_layer 0 = .ok (.aload_n 3, 1) := by decide +kernel
theorem dL_layer_1 : decode cL_layer 1 = .ok (.iconst 0, 1) := by decide +kernel
theorem dL_layer_2 : decode cL_layer 2 = .ok (.aload_n 0, 1) := by decide +kernel
theorem dL_layer_3 : decode cL_layer 3 = .ok (.iload_n 1, 1) := by decide +kernel
theorem dL_layer_4 : decode cL_layer 4 = .ok (.iload_n 2, 1) := by decide +kernel
theorem dL_layer_5 : decode cL_layer 5 = .ok (.invokevirtual 39, 3) := by decide +kernel
theorem dL_layer_8 : decode cL_layer 8 = .ok (.i2l, 1) := by decide +kernel
theorem dL_layer_9 : decode cL_layer 9 = .ok (.lastore, 1) := by decide +kernel
theorem dL_layer_10 : decode cL_layer 10 = .ok (.goto 7, 3) := by decide +kernel
theorem dL_layer_13 : decode cL_layer 13 = .ok (.astore 4, 2) := by decide +kernel
theorem dL_layer_15 : decode cL_layer 15 = .ok (.iconst 1, 1) := by decide +kernel
theorem dL_layer_16 : decode cL_layer 16 = .ok (.ireturn, 1) := by decide +kernel
theorem dL_layer_17 : decode cL_layer 17 = .ok (.iconst 0, 1) := by decide +kernel
theorem dL_layer_18 : decode cL_layer 18 = .ok (.ireturn, 1) := by decide +kernel
theorem dL_sting_0 : decode cL_sting 0 = .ok (.aload_n 2, 1) := by decide +kernel
theorem dL_sting_1 : decode cL_sting 1 = .ok (.iconst 0, 1) := by decide +kernel
theorem dL_sting_2 : decode cL_sting 2 = .ok (.aload_n 0, 1) := by decide +kernel
theorem dL_sting_3 : decode cL_sting 3 = .ok (.iload_n 1, 1) := by decide +kernel
theorem dL_sting_4 : decode cL_sting 4 = .ok (.invokevirtual 42, 3) := by decide +kernel
theorem dL_sting_7 : decode cL_sting 7 = .ok (.i2l, 1) := by decide +kernel
theorem dL_sting_8 : decode cL_sting 8 = .ok (.lastore, 1) := by decide +kernel
theorem dL_sting_9 : decode cL_sting 9 = .ok (.goto 6, 3) := by decide +kernel
theorem dL_sting_12 : decode cL_sting 12 = .ok (.astore_n 3, 1) := by decide +kernel
theorem dL_sting_13 : decode cL_sting 13 = .ok (.iconst 1, 1) := by decide +kernel
theorem dL_sting_14 : decode cL_sting 14 = .ok (.ireturn, 1) := by decide +kernel
theorem dL_sting_15 : decode cL_sting 15 = .ok (.iconst 0, 1) := by decide +kernel
theorem dL_sting_16 : decode cL_sting 16 = .ok (.ireturn, 1) := by decide +kernel
theorem dL_go_0 : decode cL_go 0 = .ok (.aload_n 2, 1) := by decide +kernel
theorem dL_go_1 : decode cL_go 1 = .ok (.iconst 0, 1) := by decide +kernel
theorem dL_go_2 : decode cL_go 2 = .ok (.aload_n 0, 1) := by decide +kernel
theorem dL_go_3 : decode cL_go 3 = .ok (.iload_n 1, 1) := by decide +kernel
theorem dL_go_4 : decode cL_go 4 = .ok (.invokevirtual 45, 3) := by decide +kernel
theorem dL_go_7 : decode cL_go 7 = .ok (.lastore, 1) := by decide +kernel
theorem dL_go_8 : decode cL_go 8 = .ok (.goto 6, 3) := by decide +kernel
theorem dL_go_11 : decode cL_go 11 = .ok (.astore_n 3, 1) := by decide +kernel
theorem dL_go_12 : decode cL_go 12 = .ok (.iconst 1, 1) := by decide +kernel
theorem dL_go_13 : decode cL_go 13 = .ok (.ireturn, 1) := by decide +kernel
theorem dL_go_14 : decode cL_go 14 = .ok (.iconst 0, 1) := by decide +kernel
theorem dL_go_15 : decode cL_go 15 = .ok (.ireturn, 1) := by decide +kernel
theorem dL_now_0 : decode cL_now 0 = .ok (.aload_n 2, 1) := by decide +kernel
theorem dL_now_1 : decode cL_now 1 = .ok (.iconst 0, 1) := by decide +kernel
theorem dL_now_2 : decode cL_now 2 = .ok (.aload_n 0, 1) := by decide +kernel
theorem dL_now_3 : decode cL_now 3 = .ok (.iload_n 1, 1) := by decide +kernel
theorem dL_now_4 : decode cL_now 4 = .ok (.invokevirtual 49, 3) := by decide +kernel
theorem dL_now_7 : decode cL_now 7 = .ok (.i2l, 1) := by decide +kernel
theorem dL_now_8 : decode cL_now 8 = .ok (.lastore, 1) := by decide +kernel
theorem dL_now_9 : decode cL_now 9 = .ok (.goto 6, 3) := by decide +kernel
theorem dL_now_12 : decode cL_now 12 = .ok (.astore_n 3, 1) := by decide +kernel
theorem dL_now_13 : decode cL_now 13 = .ok (.iconst 1, 1) := by decide +kernel
theorem dL_now_14 : decode cL_now 14 = .ok (.ireturn, 1) := by decide +kernel
theorem dL_now_15 : decode cL_now 15 = .ok (.iconst 0, 1) := by decide +kernel
theorem dL_now_16 : decode cL_now 16 = .ok (.ireturn, 1) := by decide +kernel
theorem dL_level_0 : decode cL_level 0 = .ok (.aload_n 2, 1) := by decide +kernel
theorem dL_level_1 : decode cL_level 1 = .ok (.iconst 0, 1) := by decide +kernel
theorem dL_level_2 : decode cL_level 2 = .ok (.aload_n 0, 1) := by decide +kernel
theorem dL_level_3 : decode cL_level 3 = .ok (.iload_n 1, 1) := by decide +kernel
theorem dL_level_4 : decode cL_level 4 = .ok (.invokevirtual 52, 3) := by decide +kernel
theorem dL_level_7 : decode cL_level 7 = .ok (.i2l, 1) := by decide +kernel
theorem dL_level_8 : decode cL_level 8 = .ok (.lastore, 1) := by decide +kernel
theorem dL_level_9 : decode cL_level 9 = .ok (.goto 6, 3) := by decide +kernel
theorem dL_level_12 : decode cL_level 12 = .ok (.astore_n 3, 1) := by decide +kernel
theorem dL_level_13 : decode cL_level 13 = .ok (.iconst 1, 1) := by decide +kernel
theorem dL_level_14 : decode cL_level 14 = .ok (.ireturn, 1) := by decide +kernel
theorem dL_level_15 : decode cL_level 15 = .ok (.iconst 0, 1) := by decide +kernel
theorem dL_level_16 : decode cL_level 16 = .ok (.ireturn, 1) := by decide +kernel
theorem dL_log_0 : decode cL_log 0 = .ok (.aload_n 3, 1) := by decide +kernel
theorem dL_log_1 : decode cL_log 1 = .ok (.iconst 0, 1) := by decide +kernel
theorem dL_log_2 : decode cL_log 2 = .ok (.aload_n 0, 1) := by decide +kernel
theorem dL_log_3 : decode cL_log 3 = .ok (.iload_n 1, 1) := by decide +kernel
theorem dL_log_4 : decode cL_log 4 = .ok (.iload_n 2, 1) := by decide +kernel
theorem dL_log_5 : decode cL_log 5 = .ok (.invokevirtual 55, 3) := by decide +kernel
theorem dL_log_8 : decode cL_log 8 = .ok (.lastore, 1) := by decide +kernel
theorem dL_log_9 : decode cL_log 9 = .ok (.goto 7, 3) := by decide +kernel
theorem dL_log_12 : decode cL_log 12 = .ok (.astore 4, 2) := by decide +kernel
theorem dL_log_14 : decode cL_log 14 = .ok (.iconst 1, 1) := by decide +kernel
theorem dL_log_15 : decode cL_log 15 = .ok (.ireturn, 1) := by decide +kernel
theorem dL_log_16 : decode cL_log 16 = .ok (.iconst 0, 1) := by decide +kernel
theorem dL_log_17 : decode cL_log 17 = .ok (.ireturn, 1) := by decide +kernel
theorem dL_keep_0 : decode cL_keep 0 = .ok (.aload_n 2, 1) := by decide +kernel
theorem dL_keep_1 : decode cL_keep 1 = .ok (.iconst 0, 1) := by decide +kernel
theorem dL_keep_2 : decode cL_keep 2 = .ok (.aload_n 0, 1) := by decide +kernel
theorem dL_keep_3 : decode cL_keep 3 = .ok (.iload_n 1, 1) := by decide +kernel
theorem dL_keep_4 : decode cL_keep 4 = .ok (.invokevirtual 58, 3) := by decide +kernel
theorem dL_keep_7 : decode cL_keep 7 = .ok (.ifCond .eq 7, 3) := by decide +kernel
theorem dL_keep_10 : decode cL_keep 10 = .ok (.lconst 1, 1) := by decide +kernel
theorem dL_keep_11 : decode cL_keep 11 = .ok (.goto 4, 3) := by decide +kernel
theorem dL_keep_14 : decode cL_keep 14 = .ok (.lconst 0, 1) := by decide +kernel
theorem dL_keep_15 : decode cL_keep 15 = .ok (.lastore, 1) := by decide +kernel
theorem dL_keep_16 : decode cL_keep 16 = .ok (.goto 6, 3) := by decide +kernel
theorem dL_keep_19 : decode cL_keep 19 = .ok (.astore_n 3, 1) := by decide +kernel
theorem dL_keep_20 : decode cL_keep 20 = .ok (.iconst 1, 1) := by decide +kernel
theorem dL_keep_21 : decode cL_keep 21 = .ok (.ireturn, 1) := by decide +kernel
theorem dL_keep_22 : decode cL_keep 22 = .ok (.iconst 0, 1) := by decide +kernel
theorem dL_keep_23 : decode cL_keep 23 = .ok (.ireturn, 1) := by decide +kernel
theorem dL_goOn_0 : decode cL_goOn 0 = .ok (.aload_n 2, 1) := by decide +kernel
theorem dL_goOn_1 : decode cL_goOn 1 = .ok (.iconst 0, 1) := by decide +kernel
theorem dL_goOn_2 : decode cL_goOn 2 = .ok (.aload_n 0, 1) := by decide +kernel
theorem dL_goOn_3 : decode cL_goOn 3 = .ok (.iload_n 1, 1) := by decide +kernel
theorem dL_goOn_4 : decode cL_goOn 4 = .ok (.invokevirtual 61, 3) := by decide +kernel
theorem dL_goOn_7 : decode cL_goOn 7 = .ok (.ifCond .eq 7, 3) := by decide +kernel
theorem dL_goOn_10 : decode cL_goOn 10 = .ok (.lconst 1, 1) := by decide +kernel
theorem dL_goOn_11 : decode cL_goOn 11 = .ok (.goto 4, 3) := by decide +kernel
theorem dL_goOn_14 : decode cL_goOn 14 = .ok (.lconst 0, 1) := by decide +kernel
theorem dL_goOn_15 : decode cL_goOn 15 = .ok (.lastore, 1) := by decide +kernel
theorem dL_goOn_16 : decode cL_goOn 16 = .ok (.goto 6, 3) := by decide +kernel
theorem dL_goOn_19 : decode cL_goOn 19 = .ok (.astore_n 3, 1) := by decide +kernel
theorem dL_goOn_20 : decode cL_goOn 20 = .ok (.iconst 1, 1) := by decide +kernel
theorem dL_goOn_21 : decode cL_goOn 21 = .ok (.ireturn, 1) := by decide +kernel
theorem dL_goOn_22 : decode cL_goOn 22 = .ok (.iconst 0, 1) := by decide +kernel
theorem dL_goOn_23 : decode cL_goOn 23 = .ok (.ireturn, 1) := by decide +kernel
