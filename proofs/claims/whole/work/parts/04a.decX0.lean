theorem dX0_init_0 : decode cX0_init 0 = .ok (.aload_n 0, 1) := by decide +kernel
theorem dX0_init_1 : decode cX0_init 1 = .ok (.invokespecial 3, 3) := by decide +kernel
theorem dX0_init_4 : decode cX0_init 4 = .ok (.aload_n 0, 1) := by decide +kernel
theorem dX0_init_5 : decode cX0_init 5 = .ok (.iload_n 1, 1) := by decide +kernel
theorem dX0_init_6 : decode cX0_init 6 = .ok (.putfield 9, 3) := by decide +kernel
theorem dX0_init_9 : decode cX0_init 9 = .ok (.aload_n 0, 1) := by decide +kernel
theorem dX0_init_10 : decode cX0_init 10 = .ok (.iload_n 2, 1) := by decide +kernel
theorem dX0_init_11 : decode cX0_init 11 = .ok (.putfield 15, 3) := by decide +kernel
theorem dX0_init_14 : decode cX0_init 14 = .ok (.aload_n 0, 1) := by decide +kernel
theorem dX0_init_15 : decode cX0_init 15 = .ok (.iload_n 3, 1) := by decide +kernel
theorem dX0_init_16 : decode cX0_init 16 = .ok (.putfield 18, 3) := by decide +kernel
theorem dX0_init_19 : decode cX0_init 19 = .ok (.aload_n 0, 1) := by decide +kernel
theorem dX0_init_20 : decode cX0_init 20 = .ok (.aload 4, 2) := by decide +kernel
theorem dX0_init_22 : decode cX0_init 22 = .ok (.putfield 21, 3) := by decide +kernel
theorem dX0_init_25 : decode cX0_init 25 = .ok (.aload_n 0, 1) := by decide +kernel
theorem dX0_init_26 : decode cX0_init 26 = .ok (.aload 5, 2) := by decide +kernel
theorem dX0_init_28 : decode cX0_init 28 = .ok (.putfield 25, 3) := by decide +kernel
theorem dX0_init_31 : decode cX0_init 31 = .ok (.lconst 1, 1) := by decide +kernel
theorem dX0_init_32 : decode cX0_init 32 = .ok (.iload_n 1, 1) := by decide +kernel
theorem dX0_init_33 : decode cX0_init 33 = .ok (.lshl, 1) := by decide +kernel
theorem dX0_init_34 : decode cX0_init 34 = .ok (.lstore 6, 2) := by decide +kernel
theorem dX0_init_36 : decode cX0_init 36 = .ok (.aload 4, 2) := by decide +kernel
theorem dX0_init_38 : decode cX0_init 38 = .ok (.ifnull 13, 3) := by decide +kernel
theorem dX0_init_41 : decode cX0_init 41 = .ok (.lload 6, 2) := by decide +kernel
theorem dX0_init_43 : decode cX0_init 43 = .ok (.aload 4, 2) := by decide +kernel
theorem dX0_init_45 : decode cX0_init 45 = .ok (.getfield 28, 3) := by decide +kernel
theorem dX0_init_48 : decode cX0_init 48 = .ok (.lor, 1) := by decide +kernel
theorem dX0_init_49 : decode cX0_init 49 = .ok (.lstore 6, 2) := by decide +kernel
theorem dX0_init_51 : decode cX0_init 51 = .ok (.aload 5, 2) := by decide +kernel
theorem dX0_init_53 : decode cX0_init 53 = .ok (.ifnull 13, 3) := by decide +kernel
theorem dX0_init_56 : decode cX0_init 56 = .ok (.lload 6, 2) := by decide +kernel
theorem dX0_init_58 : decode cX0_init 58 = .ok (.aload 5, 2) := by decide +kernel
theorem dX0_init_60 : decode cX0_init 60 = .ok (.getfield 28, 3) := by decide +kernel
theorem dX0_init_63 : decode cX0_init 63 = .ok (.lor, 1) := by decide +kernel
theorem dX0_init_64 : decode cX0_init 64 = .ok (.lstore 6, 2) := by decide +kernel
theorem dX0_init_66 : decode cX0_init 66 = .ok (.aload_n 0, 1) := by decide +kernel
theorem dX0_init_67 : decode cX0_init 67 = .ok (.lload 6, 2) := by decide +kernel
theorem dX0_init_69 : decode cX0_init 69 = .ok (.putfield 28, 3) := by decide +kernel
theorem dX0_init_72 : decode cX0_init 72 = .ok (.aload_n 0, 1) := by decide +kernel
theorem dX0_init_73 : decode cX0_init 73 = .ok (.sipush 1024, 3) := by decide +kernel
theorem dX0_init_76 : decode cX0_init 76 = .ok (.newarray .int, 2) := by decide +kernel
theorem dX0_init_78 : decode cX0_init 78 = .ok (.putfield 32, 3) := by decide +kernel
theorem dX0_init_81 : decode cX0_init 81 = .ok (.aload_n 0, 1) := by decide +kernel
theorem dX0_init_82 : decode cX0_init 82 = .ok (.bipush 32, 2) := by decide +kernel
theorem dX0_init_84 : decode cX0_init 84 = .ok (.newarray .int, 2) := by decide +kernel
theorem dX0_init_86 : decode cX0_init 86 = .ok (.putfield 36, 3) := by decide +kernel
theorem dX0_init_89 : decode cX0_init 89 = .ok (.aload_n 0, 1) := by decide +kernel
theorem dX0_init_90 : decode cX0_init 90 = .ok (.iconst (-1), 1) := by decide +kernel
theorem dX0_init_91 : decode cX0_init 91 = .ok (.putfield 39, 3) := by decide +kernel
theorem dX0_init_94 : decode cX0_init 94 = .ok (.aload_n 0, 1) := by decide +kernel
theorem dX0_init_95 : decode cX0_init 95 = .ok (.iconst 0, 1) := by decide +kernel
theorem dX0_init_96 : decode cX0_init 96 = .ok (.putfield 42, 3) := by decide +kernel
theorem dX0_init_99 : decode cX0_init 99 = .ok (.return_, 1) := by decide +kernel
theorem dX0_isMadeOf_0 : decode cX0_isMadeOf 0 = .ok (.aload_n 0, 1) := by decide +kernel
theorem dX0_isMadeOf_1 : decode cX0_isMadeOf 1 = .ok (.getfield 28, 3) := by decide +kernel
theorem dX0_isMadeOf_4 : decode cX0_isMadeOf 4 = .ok (.iload_n 1, 1) := by decide +kernel
theorem dX0_isMadeOf_5 : decode cX0_isMadeOf 5 = .ok (.lushr, 1) := by decide +kernel
theorem dX0_isMadeOf_6 : decode cX0_isMadeOf 6 = .ok (.lconst 1, 1) := by decide +kernel
theorem dX0_isMadeOf_7 : decode cX0_isMadeOf 7 = .ok (.land, 1) := by decide +kernel
theorem dX0_isMadeOf_8 : decode cX0_isMadeOf 8 = .ok (.lconst 0, 1) := by decide +kernel
theorem dX0_isMadeOf_9 : decode cX0_isMadeOf 9 = .ok (.lcmp, 1) := by decide +kernel
theorem dX0_isMadeOf_10 : decode cX0_isMadeOf 10 = .ok (.ifCond .eq 7, 3) := by decide +kernel
theorem dX0_isMadeOf_13 : decode cX0_isMadeOf 13 = .ok (.iconst 1, 1) := by decide +kernel
theorem dX0_isMadeOf_14 : decode cX0_isMadeOf 14 = .ok (.goto 4, 3) := by decide +kernel
theorem dX0_isMadeOf_17 : decode cX0_isMadeOf 17 = .ok (.iconst 0, 1) := by decide +kernel
theorem dX0_isMadeOf_18 : decode cX0_isMadeOf 18 = .ok (.ireturn, 1) := by decide +kernel
theorem dX0_walks_0 : decode cX0_walks 0 = .ok (.aload_n 0, 1) := by decide +kernel
theorem dX0_walks_1 : decode cX0_walks 1 = .ok (.getfield 15, 3) := by decide +kernel
theorem dX0_walks_4 : decode cX0_walks 4 = .ok (.iconst 4, 1) := by decide +kernel
theorem dX0_walks_5 : decode cX0_walks 5 = .ok (.if_icmp .eq 11, 3) := by decide +kernel
theorem dX0_walks_8 : decode cX0_walks 8 = .ok (.aload_n 0, 1) := by decide +kernel
theorem dX0_walks_9 : decode cX0_walks 9 = .ok (.getfield 15, 3) := by decide +kernel
theorem dX0_walks_12 : decode cX0_walks 12 = .ok (.iconst 5, 1) := by decide +kernel
theorem dX0_walks_13 : decode cX0_walks 13 = .ok (.if_icmp .ne 7, 3) := by decide +kernel
theorem dX0_walks_16 : decode cX0_walks 16 = .ok (.iconst 1, 1) := by decide +kernel
theorem dX0_walks_17 : decode cX0_walks 17 = .ok (.goto 4, 3) := by decide +kernel
theorem dX0_walks_20 : decode cX0_walks 20 = .ok (.iconst 0, 1) := by decide +kernel
theorem dX0_walks_21 : decode cX0_walks 21 = .ok (.ireturn, 1) := by decide +kernel
theorem dX0_timesOf_0 : decode cX0_timesOf 0 = .ok (.aload_n 0, 1) := by decide +kernel
theorem dX0_timesOf_1 : decode cX0_timesOf 1 = .ok (.getfield 32, 3) := by decide +kernel
theorem dX0_timesOf_4 : decode cX0_timesOf 4 = .ok (.iload_n 1, 1) := by decide +kernel
theorem dX0_timesOf_5 : decode cX0_timesOf 5 = .ok (.bipush 32, 2) := by decide +kernel
theorem dX0_timesOf_7 : decode cX0_timesOf 7 = .ok (.imul, 1) := by decide +kernel
theorem dX0_timesOf_8 : decode cX0_timesOf 8 = .ok (.iload_n 2, 1) := by decide +kernel
theorem dX0_timesOf_9 : decode cX0_timesOf 9 = .ok (.iadd, 1) := by decide +kernel
theorem dX0_timesOf_10 : decode cX0_timesOf 10 = .ok (.iaload, 1) := by decide +kernel
theorem dX0_timesOf_11 : decode cX0_timesOf 11 = .ok (.ireturn, 1) := by decide +kernel
theorem dX0_pairs_0 : decode cX0_pairs 0 = .ok (.iconst 0, 1) := by decide +kernel
theorem dX0_pairs_1 : decode cX0_pairs 1 = .ok (.istore_n 1, 1) := by decide +kernel
theorem dX0_pairs_2 : decode cX0_pairs 2 = .ok (.iconst 0, 1) := by decide +kernel
theorem dX0_pairs_3 : decode cX0_pairs 3 = .ok (.istore_n 2, 1) := by decide +kernel
theorem dX0_pairs_4 : decode cX0_pairs 4 = .ok (.iload_n 2, 1) := by decide +kernel
theorem dX0_pairs_5 : decode cX0_pairs 5 = .ok (.bipush 32, 2) := by decide +kernel
theorem dX0_pairs_7 : decode cX0_pairs 7 = .ok (.if_icmp .ge 21, 3) := by decide +kernel
theorem dX0_pairs_10 : decode cX0_pairs 10 = .ok (.iload_n 1, 1) := by decide +kernel
theorem dX0_pairs_11 : decode cX0_pairs 11 = .ok (.aload_n 0, 1) := by decide +kernel
theorem dX0_pairs_12 : decode cX0_pairs 12 = .ok (.getfield 36, 3) := by decide +kernel
theorem dX0_pairs_15 : decode cX0_pairs 15 = .ok (.iload_n 2, 1) := by decide +kernel
theorem dX0_pairs_16 : decode cX0_pairs 16 = .ok (.iaload, 1) := by decide +kernel
theorem dX0_pairs_17 : decode cX0_pairs 17 = .ok (.invokestatic 45, 3) := by decide +kernel
theorem dX0_pairs_20 : decode cX0_pairs 20 = .ok (.iadd, 1) := by decide +kernel
theorem dX0_pairs_21 : decode cX0_pairs 21 = .ok (.istore_n 1, 1) := by decide +kernel
theorem dX0_pairs_22 : decode cX0_pairs 22 = .ok (.iinc 2 1, 3) := by decide +kernel
theorem dX0_pairs_25 : decode cX0_pairs 25 = .ok (.goto (-21), 3) := by decide +kernel
theorem dX0_pairs_28 : decode cX0_pairs 28 = .ok (.iload_n 1, 1) := by decide +kernel
theorem dX0_pairs_29 : decode cX0_pairs 29 = .ok (.ireturn, 1) := by decide +kernel
theorem dX0_countBetween_0 : decode cX0_countBetween 0 = .ok (.iconst 0, 1) := by decide +kernel
theorem dX0_countBetween_1 : decode cX0_countBetween 1 = .ok (.istore_n 3, 1) := by decide +kernel
theorem dX0_countBetween_2 : decode cX0_countBetween 2 = .ok (.iload_n 1, 1) := by decide +kernel
theorem dX0_countBetween_3 : decode cX0_countBetween 3 = .ok (.invokestatic 51, 3) := by decide +kernel
theorem dX0_countBetween_6 : decode cX0_countBetween 6 = .ok (.istore 4, 2) := by decide +kernel
theorem dX0_countBetween_8 : decode cX0_countBetween 8 = .ok (.iload 4, 2) := by decide +kernel
theorem dX0_countBetween_10 : decode cX0_countBetween 10 = .ok (.iload_n 1, 1) := by decide +kernel
theorem dX0_countBetween_11 : decode cX0_countBetween 11 = .ok (.invokestatic 54, 3) := by decide +kernel
theorem dX0_countBetween_14 : decode cX0_countBetween 14 = .ok (.if_icmp .gt 41, 3) := by decide +kernel
theorem dX0_countBetween_17 : decode cX0_countBetween 17 = .ok (.iload_n 2, 1) := by decide +kernel
theorem dX0_countBetween_18 : decode cX0_countBetween 18 = .ok (.invokestatic 51, 3) := by decide +kernel
theorem dX0_countBetween_21 : decode cX0_countBetween 21 = .ok (.istore 5, 2) := by decide +kernel
theorem dX0_countBetween_23 : decode cX0_countBetween 23 = .ok (.iload 5, 2) := by decide +kernel
theorem dX0_countBetween_25 : decode cX0_countBetween 25 = .ok (.iload_n 2, 1) := by decide +kernel
theorem dX0_countBetween_26 : decode cX0_countBetween 26 = .ok (.invokestatic 54, 3) := by decide +kernel
theorem dX0_countBetween_29 : decode cX0_countBetween 29 = .ok (.if_icmp .gt 20, 3) := by decide +kernel
theorem dX0_countBetween_32 : decode cX0_countBetween 32 = .ok (.iload_n 3, 1) := by decide +kernel
theorem dX0_countBetween_33 : decode cX0_countBetween 33 = .ok (.aload_n 0, 1) := by decide +kernel
theorem dX0_countBetween_34 : decode cX0_countBetween 34 = .ok (.iload 4, 2) := by decide +kernel
theorem dX0_countBetween_36 : decode cX0_countBetween 36 = .ok (.iload 5, 2) := by decide +kernel
theorem dX0_countBetween_38 : decode cX0_countBetween 38 = .ok (.invokevirtual 57, 3) := by decide +kernel
theorem dX0_countBetween_41 : decode cX0_countBetween 41 = .ok (.iadd, 1) := by decide +kernel
theorem dX0_countBetween_42 : decode cX0_countBetween 42 = .ok (.istore_n 3, 1) := by decide +kernel
theorem dX0_countBetween_43 : decode cX0_countBetween 43 = .ok (.iinc 5 1, 3) := by decide +kernel
theorem dX0_countBetween_46 : decode cX0_countBetween 46 = .ok (.goto (-23), 3) := by decide +kernel
theorem dX0_countBetween_49 : decode cX0_countBetween 49 = .ok (.iinc 4 1, 3) := by decide +kernel
theorem dX0_countBetween_52 : decode cX0_countBetween 52 = .ok (.goto (-44), 3) := by decide +kernel
theorem dX0_countBetween_55 : decode cX0_countBetween 55 = .ok (.iload_n 3, 1) := by decide +kernel
theorem dX0_countBetween_56 : decode cX0_countBetween 56 = .ok (.ireturn, 1) := by decide +kernel
theorem dX0_countIn_0 : decode cX0_countIn 0 = .ok (.aload_n 0, 1) := by decide +kernel
theorem dX0_countIn_1 : decode cX0_countIn 1 = .ok (.getfield 39, 3) := by decide +kernel
theorem dX0_countIn_4 : decode cX0_countIn 4 = .ok (.aload_n 1, 1) := by decide +kernel
theorem dX0_countIn_5 : decode cX0_countIn 5 = .ok (.getfield 61, 3) := by decide +kernel
theorem dX0_countIn_8 : decode cX0_countIn 8 = .ok (.if_icmp .ne 12, 3) := by decide +kernel
theorem dX0_countIn_11 : decode cX0_countIn 11 = .ok (.aload_n 0, 1) := by decide +kernel
theorem dX0_countIn_12 : decode cX0_countIn 12 = .ok (.getfield 42, 3) := by decide +kernel
theorem dX0_countIn_15 : decode cX0_countIn 15 = .ok (.iload_n 2, 1) := by decide +kernel
theorem dX0_countIn_16 : decode cX0_countIn 16 = .ok (.if_icmp .ne 4, 3) := by decide +kernel
theorem dX0_countIn_19 : decode cX0_countIn 19 = .ok (.return_, 1) := by decide +kernel
theorem dX0_countIn_20 : decode cX0_countIn 20 = .ok (.aload_n 0, 1) := by decide +kernel
theorem dX0_countIn_21 : decode cX0_countIn 21 = .ok (.aload_n 1, 1) := by decide +kernel
theorem dX0_countIn_22 : decode cX0_countIn 22 = .ok (.getfield 61, 3) := by decide +kernel
theorem dX0_countIn_25 : decode cX0_countIn 25 = .ok (.putfield 39, 3) := by decide +kernel
theorem dX0_countIn_28 : decode cX0_countIn 28 = .ok (.aload_n 0, 1) := by decide +kernel
theorem dX0_countIn_29 : decode cX0_countIn 29 = .ok (.iload_n 2, 1) := by decide +kernel
theorem dX0_countIn_30 : decode cX0_countIn 30 = .ok (.putfield 42, 3) := by decide +kernel
theorem dX0_countIn_33 : decode cX0_countIn 33 = .ok (.aload_n 0, 1) := by decide +kernel
theorem dX0_countIn_34 : decode cX0_countIn 34 = .ok (.invokevirtual 66, 3) := by decide +kernel
theorem dX0_countIn_37 : decode cX0_countIn 37 = .ok (.aload_n 0, 1) := by decide +kernel
theorem dX0_countIn_38 : decode cX0_countIn 38 = .ok (.getfield 21, 3) := by decide +kernel
theorem dX0_countIn_41 : decode cX0_countIn 41 = .ok (.ifnonnull 11, 3) := by decide +kernel
theorem dX0_countIn_44 : decode cX0_countIn 44 = .ok (.aload_n 0, 1) := by decide +kernel
theorem dX0_countIn_45 : decode cX0_countIn 45 = .ok (.aload_n 1, 1) := by decide +kernel
theorem dX0_countIn_46 : decode cX0_countIn 46 = .ok (.invokevirtual 69, 3) := by decide +kernel
theorem dX0_countIn_49 : decode cX0_countIn 49 = .ok (.goto 34, 3) := by decide +kernel
theorem dX0_countIn_52 : decode cX0_countIn 52 = .ok (.aload_n 0, 1) := by decide +kernel
theorem dX0_countIn_53 : decode cX0_countIn 53 = .ok (.getfield 25, 3) := by decide +kernel
theorem dX0_countIn_56 : decode cX0_countIn 56 = .ok (.ifnonnull 15, 3) := by decide +kernel
theorem dX0_countIn_59 : decode cX0_countIn 59 = .ok (.aload_n 0, 1) := by decide +kernel
theorem dX0_countIn_60 : decode cX0_countIn 60 = .ok (.aload_n 0, 1) := by decide +kernel
theorem dX0_countIn_61 : decode cX0_countIn 61 = .ok (.getfield 21, 3) := by decide +kernel
theorem dX0_countIn_64 : decode cX0_countIn 64 = .ok (.iload_n 2, 1) := by decide +kernel
theorem dX0_countIn_65 : decode cX0_countIn 65 = .ok (.invokevirtual 73, 3) := by decide +kernel
theorem dX0_countIn_68 : decode cX0_countIn 68 = .ok (.goto 15, 3) := by decide +kernel
theorem dX0_countIn_71 : decode cX0_countIn 71 = .ok (.aload_n 0, 1) := by decide +kernel
theorem dX0_countIn_72 : decode cX0_countIn 72 = .ok (.aload_n 0, 1) := by decide +kernel
theorem dX0_countIn_73 : decode cX0_countIn 73 = .ok (.getfield 21, 3) := by decide +kernel
theorem dX0_countIn_76 : decode cX0_countIn 76 = .ok (.aload_n 0, 1) := by decide +kernel
theorem dX0_countIn_77 : decode cX0_countIn 77 = .ok (.getfield 25, 3) := by decide +kernel
theorem dX0_countIn_80 : decode cX0_countIn 80 = .ok (.invokevirtual 77, 3) := by decide +kernel
theorem dX0_countIn_83 : decode cX0_countIn 83 = .ok (.return_, 1) := by decide +kernel
theorem dX0_forget_0 : decode cX0_forget 0 = .ok (.iconst 0, 1) := by decide +kernel
theorem dX0_forget_1 : decode cX0_forget 1 = .ok (.istore_n 1, 1) := by decide +kernel
theorem dX0_forget_2 : decode cX0_forget 2 = .ok (.iload_n 1, 1) := by decide +kernel
theorem dX0_forget_3 : decode cX0_forget 3 = .ok (.bipush 32, 2) := by decide +kernel
theorem dX0_forget_5 : decode cX0_forget 5 = .ok (.if_icmp .ge 16, 3) := by decide +kernel
theorem dX0_forget_8 : decode cX0_forget 8 = .ok (.aload_n 0, 1) := by decide +kernel
theorem dX0_forget_9 : decode cX0_forget 9 = .ok (.getfield 36, 3) := by decide +kernel
theorem dX0_forget_12 : decode cX0_forget 12 = .ok (.iload_n 1, 1) := by decide +kernel
theorem dX0_forget_13 : decode cX0_forget 13 = .ok (.iconst 0, 1) := by decide +kernel
theorem dX0_forget_14 : decode cX0_forget 14 = .ok (.iastore, 1) := by decide +kernel
theorem dX0_forget_15 : decode cX0_forget 15 = .ok (.iinc 1 1, 3) := by decide +kernel
theorem dX0_forget_18 : decode cX0_forget 18 = .ok (.goto (-16), 3) := by decide +kernel
theorem dX0_forget_21 : decode cX0_forget 21 = .ok (.iconst 0, 1) := by decide +kernel
theorem dX0_forget_22 : decode cX0_forget 22 = .ok (.istore_n 1, 1) := by decide +kernel
theorem dX0_forget_23 : decode cX0_forget 23 = .ok (.iload_n 1, 1) := by decide +kernel
theorem dX0_forget_24 : decode cX0_forget 24 = .ok (.sipush 1024, 3) := by decide +kernel
theorem dX0_forget_27 : decode cX0_forget 27 = .ok (.if_icmp .ge 16, 3) := by decide +kernel
theorem dX0_forget_30 : decode cX0_forget 30 = .ok (.aload_n 0, 1) := by decide +kernel
theorem dX0_forget_31 : decode cX0_forget 31 = .ok (.getfield 32, 3) := by decide +kernel
theorem dX0_forget_34 : decode cX0_forget 34 = .ok (.iload_n 1, 1) := by decide +kernel
theorem dX0_forget_35 : decode cX0_forget 35 = .ok (.iconst 0, 1) := by decide +kernel
theorem dX0_forget_36 : decode cX0_forget 36 = .ok (.iastore, 1) := by decide +kernel
theorem dX0_forget_37 : decode cX0_forget 37 = .ok (.iinc 1 1, 3) := by decide +kernel
theorem dX0_forget_40 : decode cX0_forget 40 = .ok (.goto (-17), 3) := by decide +kernel
theorem dX0_forget_43 : decode cX0_forget 43 = .ok (.return_, 1) := by decide +kernel
theorem dX0_addTimes_0 : decode cX0_addTimes 0 = .ok (.lload_n 3, 1) := by decide +kernel
theorem dX0_addTimes_1 : decode cX0_addTimes 1 = .ok (.lconst 0, 1) := by decide +kernel
theorem dX0_addTimes_2 : decode cX0_addTimes 2 = .ok (.lcmp, 1) := by decide +kernel
theorem dX0_addTimes_3 : decode cX0_addTimes 3 = .ok (.ifCond .le 59, 3) := by decide +kernel
theorem dX0_addTimes_6 : decode cX0_addTimes 6 = .ok (.iload_n 1, 1) := by decide +kernel
theorem dX0_addTimes_7 : decode cX0_addTimes 7 = .ok (.bipush 32, 2) := by decide +kernel
theorem dX0_addTimes_9 : decode cX0_addTimes 9 = .ok (.imul, 1) := by decide +kernel
theorem dX0_addTimes_10 : decode cX0_addTimes 10 = .ok (.iload_n 2, 1) := by decide +kernel
theorem dX0_addTimes_11 : decode cX0_addTimes 11 = .ok (.iadd, 1) := by decide +kernel
theorem dX0_addTimes_12 : decode cX0_addTimes 12 = .ok (.istore 5, 2) := by decide +kernel
theorem dX0_addTimes_14 : decode cX0_addTimes 14 = .ok (.aload_n 0, 1) := by decide +kernel
theorem dX0_addTimes_15 : decode cX0_addTimes 15 = .ok (.getfield 32, 3) := by decide +kernel
theorem dX0_addTimes_18 : decode cX0_addTimes 18 = .ok (.iload 5, 2) := by decide +kernel
theorem dX0_addTimes_20 : decode cX0_addTimes 20 = .ok (.iaload, 1) := by decide +kernel
theorem dX0_addTimes_21 : decode cX0_addTimes 21 = .ok (.i2l, 1) := by decide +kernel
theorem dX0_addTimes_22 : decode cX0_addTimes 22 = .ok (.lload_n 3, 1) := by decide +kernel
theorem dX0_addTimes_23 : decode cX0_addTimes 23 = .ok (.ladd, 1) := by decide +kernel
theorem dX0_addTimes_24 : decode cX0_addTimes 24 = .ok (.lstore 6, 2) := by decide +kernel
theorem dX0_addTimes_26 : decode cX0_addTimes 26 = .ok (.aload_n 0, 1) := by decide +kernel
theorem dX0_addTimes_27 : decode cX0_addTimes 27 = .ok (.getfield 32, 3) := by decide +kernel
theorem dX0_addTimes_30 : decode cX0_addTimes 30 = .ok (.iload 5, 2) := by decide +kernel
theorem dX0_addTimes_32 : decode cX0_addTimes 32 = .ok (.lload 6, 2) := by decide +kernel
theorem dX0_addTimes_34 : decode cX0_addTimes 34 = .ok (.ldc2_w 81, 3) := by decide +kernel
theorem dX0_addTimes_37 : decode cX0_addTimes 37 = .ok (.lcmp, 1) := by decide +kernel
theorem dX0_addTimes_38 : decode cX0_addTimes 38 = .ok (.ifCond .le 8, 3) := by decide +kernel
theorem dX0_addTimes_41 : decode cX0_addTimes 41 = .ok (.ldc 83, 2) := by decide +kernel
theorem dX0_addTimes_43 : decode cX0_addTimes 43 = .ok (.goto 6, 3) := by decide +kernel
theorem dX0_addTimes_46 : decode cX0_addTimes 46 = .ok (.lload 6, 2) := by decide +kernel
theorem dX0_addTimes_48 : decode cX0_addTimes 48 = .ok (.l2i, 1) := by decide +kernel
theorem dX0_addTimes_49 : decode cX0_addTimes 49 = .ok (.iastore, 1) := by decide +kernel
theorem dX0_addTimes_50 : decode cX0_addTimes 50 = .ok (.aload_n 0, 1) := by decide +kernel
theorem dX0_addTimes_51 : decode cX0_addTimes 51 = .ok (.getfield 36, 3) := by decide +kernel
theorem dX0_addTimes_54 : decode cX0_addTimes 54 = .ok (.iload_n 1, 1) := by decide +kernel
theorem dX0_addTimes_55 : decode cX0_addTimes 55 = .ok (.dup2, 1) := by decide +kernel
theorem dX0_addTimes_56 : decode cX0_addTimes 56 = .ok (.iaload, 1) := by decide +kernel
theorem dX0_addTimes_57 : decode cX0_addTimes 57 = .ok (.iconst 1, 1) := by decide +kernel
theorem dX0_addTimes_58 : decode cX0_addTimes 58 = .ok (.iload_n 2, 1) := by decide +kernel
theorem dX0_addTimes_59 : decode cX0_addTimes 59 = .ok (.ishl, 1) := by decide +kernel
theorem dX0_addTimes_60 : decode cX0_addTimes 60 = .ok (.ior, 1) := by decide +kernel
theorem dX0_addTimes_61 : decode cX0_addTimes 61 = .ok (.iastore, 1) := by decide +kernel
theorem dX0_addTimes_62 : decode cX0_addTimes 62 = .ok (.return_, 1) := by decide +kernel
theorem dX0_countLinks_0 : decode cX0_countLinks 0 = .ok (.iconst 0, 1) := by decide +kernel
theorem dX0_countLinks_1 : decode cX0_countLinks 1 = .ok (.istore_n 2, 1) := by decide +kernel
theorem dX0_countLinks_2 : decode cX0_countLinks 2 = .ok (.iload_n 2, 1) := by decide +kernel
theorem dX0_countLinks_3 : decode cX0_countLinks 3 = .ok (.bipush 32, 2) := by decide +kernel
theorem dX0_countLinks_5 : decode cX0_countLinks 5 = .ok (.if_icmp .ge 49, 3) := by decide +kernel
theorem dX0_countLinks_8 : decode cX0_countLinks 8 = .ok (.iconst 0, 1) := by decide +kernel
theorem dX0_countLinks_9 : decode cX0_countLinks 9 = .ok (.istore_n 3, 1) := by decide +kernel
theorem dX0_countLinks_10 : decode cX0_countLinks 10 = .ok (.iload_n 3, 1) := by decide +kernel
theorem dX0_countLinks_11 : decode cX0_countLinks 11 = .ok (.bipush 32, 2) := by decide +kernel
theorem dX0_countLinks_13 : decode cX0_countLinks 13 = .ok (.if_icmp .ge 35, 3) := by decide +kernel
theorem dX0_countLinks_16 : decode cX0_countLinks 16 = .ok (.aload_n 0, 1) := by decide +kernel
theorem dX0_countLinks_17 : decode cX0_countLinks 17 = .ok (.iload_n 2, 1) := by decide +kernel
theorem dX0_countLinks_18 : decode cX0_countLinks 18 = .ok (.iload_n 3, 1) := by decide +kernel
theorem dX0_countLinks_19 : decode cX0_countLinks 19 = .ok (.aload_n 1, 1) := by decide +kernel
theorem dX0_countLinks_20 : decode cX0_countLinks 20 = .ok (.getfield 84, 3) := by decide +kernel
theorem dX0_countLinks_23 : decode cX0_countLinks 23 = .ok (.iload_n 2, 1) := by decide +kernel
theorem dX0_countLinks_24 : decode cX0_countLinks 24 = .ok (.bipush 32, 2) := by decide +kernel
theorem dX0_countLinks_26 : decode cX0_countLinks 26 = .ok (.imul, 1) := by decide +kernel
theorem dX0_countLinks_27 : decode cX0_countLinks 27 = .ok (.iload_n 3, 1) := by decide +kernel
theorem dX0_countLinks_28 : decode cX0_countLinks 28 = .ok (.iadd, 1) := by decide +kernel
theorem dX0_countLinks_29 : decode cX0_countLinks 29 = .ok (.iaload, 1) := by decide +kernel
theorem dX0_countLinks_30 : decode cX0_countLinks 30 = .ok (.aload_n 0, 1) := by decide +kernel
theorem dX0_countLinks_31 : decode cX0_countLinks 31 = .ok (.getfield 18, 3) := by decide +kernel
theorem dX0_countLinks_34 : decode cX0_countLinks 34 = .ok (.iand, 1) := by decide +kernel
theorem dX0_countLinks_35 : decode cX0_countLinks 35 = .ok (.invokestatic 45, 3) := by decide +kernel
theorem dX0_countLinks_38 : decode cX0_countLinks 38 = .ok (.i2l, 1) := by decide +kernel
theorem dX0_countLinks_39 : decode cX0_countLinks 39 = .ok (.invokevirtual 86, 3) := by decide +kernel
theorem dX0_countLinks_42 : decode cX0_countLinks 42 = .ok (.iinc 3 1, 3) := by decide +kernel
theorem dX0_countLinks_45 : decode cX0_countLinks 45 = .ok (.goto (-35), 3) := by decide +kernel
theorem dX0_countLinks_48 : decode cX0_countLinks 48 = .ok (.iinc 2 1, 3) := by decide +kernel
theorem dX0_countLinks_51 : decode cX0_countLinks 51 = .ok (.goto (-49), 3) := by decide +kernel
theorem dX0_countLinks_54 : decode cX0_countLinks 54 = .ok (.return_, 1) := by decide +kernel
theorem dX0_countOverOne_0 : decode cX0_countOverOne 0 = .ok (.aload_n 0, 1) := by decide +kernel
theorem dX0_countOverOne_1 : decode cX0_countOverOne 1 = .ok (.getfield 15, 3) := by decide +kernel
theorem dX0_countOverOne_4 : decode cX0_countOverOne 4 = .ok (.iconst 1, 1) := by decide +kernel
theorem dX0_countOverOne_5 : decode cX0_countOverOne 5 = .ok (.if_icmp .ne 11, 3) := by decide +kernel
theorem dX0_countOverOne_8 : decode cX0_countOverOne 8 = .ok (.aload_n 0, 1) := by decide +kernel
theorem dX0_countOverOne_9 : decode cX0_countOverOne 9 = .ok (.aload_n 1, 1) := by decide +kernel
theorem dX0_countOverOne_10 : decode cX0_countOverOne 10 = .ok (.invokevirtual 90, 3) := by decide +kernel
theorem dX0_countOverOne_13 : decode cX0_countOverOne 13 = .ok (.goto 13, 3) := by decide +kernel
theorem dX0_countOverOne_16 : decode cX0_countOverOne 16 = .ok (.aload_n 0, 1) := by decide +kernel
theorem dX0_countOverOne_17 : decode cX0_countOverOne 17 = .ok (.aload_n 1, 1) := by decide +kernel
theorem dX0_countOverOne_18 : decode cX0_countOverOne 18 = .ok (.iload_n 2, 1) := by decide +kernel
theorem dX0_countOverOne_19 : decode cX0_countOverOne 19 = .ok (.invokevirtual 94, 3) := by decide +kernel
theorem dX0_countOverOne_22 : decode cX0_countOverOne 22 = .ok (.aload_n 0, 1) := by decide +kernel
theorem dX0_countOverOne_23 : decode cX0_countOverOne 23 = .ok (.invokevirtual 97, 3) := by decide +kernel
theorem dX0_countOverOne_26 : decode cX0_countOverOne 26 = .ok (.return_, 1) := by decide +kernel
theorem dX0_countOverTwo_0 : decode cX0_countOverTwo 0 = .ok (.aload_n 0, 1) := by decide +kernel
theorem dX0_countOverTwo_1 : decode cX0_countOverTwo 1 = .ok (.getfield 15, 3) := by decide +kernel
theorem dX0_countOverTwo_4 : decode cX0_countOverTwo 4 = .ok (.iconst 3, 1) := by decide +kernel
theorem dX0_countOverTwo_5 : decode cX0_countOverTwo 5 = .ok (.if_icmp .ne 16, 3) := by decide +kernel
theorem dX0_countOverTwo_8 : decode cX0_countOverTwo 8 = .ok (.aload_n 0, 1) := by decide +kernel
theorem dX0_countOverTwo_9 : decode cX0_countOverTwo 9 = .ok (.aload_n 1, 1) := by decide +kernel
theorem dX0_countOverTwo_10 : decode cX0_countOverTwo 10 = .ok (.invokevirtual 100, 3) := by decide +kernel
theorem dX0_countOverTwo_13 : decode cX0_countOverTwo 13 = .ok (.aload_n 0, 1) := by decide +kernel
theorem dX0_countOverTwo_14 : decode cX0_countOverTwo 14 = .ok (.aload_n 2, 1) := by decide +kernel
theorem dX0_countOverTwo_15 : decode cX0_countOverTwo 15 = .ok (.invokevirtual 100, 3) := by decide +kernel
theorem dX0_countOverTwo_18 : decode cX0_countOverTwo 18 = .ok (.goto 9, 3) := by decide +kernel
theorem dX0_countOverTwo_21 : decode cX0_countOverTwo 21 = .ok (.aload_n 0, 1) := by decide +kernel
theorem dX0_countOverTwo_22 : decode cX0_countOverTwo 22 = .ok (.aload_n 1, 1) := by decide +kernel
theorem dX0_countOverTwo_23 : decode cX0_countOverTwo 23 = .ok (.aload_n 2, 1) := by decide +kernel
theorem dX0_countOverTwo_24 : decode cX0_countOverTwo 24 = .ok (.invokevirtual 103, 3) := by decide +kernel
theorem dX0_countOverTwo_27 : decode cX0_countOverTwo 27 = .ok (.return_, 1) := by decide +kernel
theorem dX0_countTurned_0 : decode cX0_countTurned 0 = .ok (.iconst 0, 1) := by decide +kernel
theorem dX0_countTurned_1 : decode cX0_countTurned 1 = .ok (.istore_n 2, 1) := by decide +kernel
theorem dX0_countTurned_2 : decode cX0_countTurned 2 = .ok (.iload_n 2, 1) := by decide +kernel
theorem dX0_countTurned_3 : decode cX0_countTurned 3 = .ok (.bipush 32, 2) := by decide +kernel
theorem dX0_countTurned_5 : decode cX0_countTurned 5 = .ok (.if_icmp .ge 36, 3) := by decide +kernel
theorem dX0_countTurned_8 : decode cX0_countTurned 8 = .ok (.iconst 0, 1) := by decide +kernel
theorem dX0_countTurned_9 : decode cX0_countTurned 9 = .ok (.istore_n 3, 1) := by decide +kernel
theorem dX0_countTurned_10 : decode cX0_countTurned 10 = .ok (.iload_n 3, 1) := by decide +kernel
theorem dX0_countTurned_11 : decode cX0_countTurned 11 = .ok (.bipush 32, 2) := by decide +kernel
theorem dX0_countTurned_13 : decode cX0_countTurned 13 = .ok (.if_icmp .ge 22, 3) := by decide +kernel
theorem dX0_countTurned_16 : decode cX0_countTurned 16 = .ok (.aload_n 0, 1) := by decide +kernel
theorem dX0_countTurned_17 : decode cX0_countTurned 17 = .ok (.iload_n 3, 1) := by decide +kernel
theorem dX0_countTurned_18 : decode cX0_countTurned 18 = .ok (.iload_n 2, 1) := by decide +kernel
theorem dX0_countTurned_19 : decode cX0_countTurned 19 = .ok (.aload_n 1, 1) := by decide +kernel
theorem dX0_countTurned_20 : decode cX0_countTurned 20 = .ok (.iload_n 2, 1) := by decide +kernel
theorem dX0_countTurned_21 : decode cX0_countTurned 21 = .ok (.iload_n 3, 1) := by decide +kernel
theorem dX0_countTurned_22 : decode cX0_countTurned 22 = .ok (.invokevirtual 57, 3) := by decide +kernel
theorem dX0_countTurned_25 : decode cX0_countTurned 25 = .ok (.i2l, 1) := by decide +kernel
theorem dX0_countTurned_26 : decode cX0_countTurned 26 = .ok (.invokevirtual 86, 3) := by decide +kernel
theorem dX0_countTurned_29 : decode cX0_countTurned 29 = .ok (.iinc 3 1, 3) := by decide +kernel
theorem dX0_countTurned_32 : decode cX0_countTurned 32 = .ok (.goto (-22), 3) := by decide +kernel
theorem dX0_countTurned_35 : decode cX0_countTurned 35 = .ok (.iinc 2 1, 3) := by decide +kernel
theorem dX0_countTurned_38 : decode cX0_countTurned 38 = .ok (.goto (-36), 3) := by decide +kernel
theorem dX0_countTurned_41 : decode cX0_countTurned 41 = .ok (.return_, 1) := by decide +kernel
theorem dX0_countAll_0 : decode cX0_countAll 0 = .ok (.iconst 0, 1) := by decide +kernel
theorem dX0_countAll_1 : decode cX0_countAll 1 = .ok (.istore_n 2, 1) := by decide +kernel
theorem dX0_countAll_2 : decode cX0_countAll 2 = .ok (.iload_n 2, 1) := by decide +kernel
theorem dX0_countAll_3 : decode cX0_countAll 3 = .ok (.bipush 32, 2) := by decide +kernel
theorem dX0_countAll_5 : decode cX0_countAll 5 = .ok (.if_icmp .ge 36, 3) := by decide +kernel
theorem dX0_countAll_8 : decode cX0_countAll 8 = .ok (.iconst 0, 1) := by decide +kernel
theorem dX0_countAll_9 : decode cX0_countAll 9 = .ok (.istore_n 3, 1) := by decide +kernel
theorem dX0_countAll_10 : decode cX0_countAll 10 = .ok (.iload_n 3, 1) := by decide +kernel
theorem dX0_countAll_11 : decode cX0_countAll 11 = .ok (.bipush 32, 2) := by decide +kernel
theorem dX0_countAll_13 : decode cX0_countAll 13 = .ok (.if_icmp .ge 22, 3) := by decide +kernel
theorem dX0_countAll_16 : decode cX0_countAll 16 = .ok (.aload_n 0, 1) := by decide +kernel
theorem dX0_countAll_17 : decode cX0_countAll 17 = .ok (.iload_n 2, 1) := by decide +kernel
theorem dX0_countAll_18 : decode cX0_countAll 18 = .ok (.iload_n 3, 1) := by decide +kernel
theorem dX0_countAll_19 : decode cX0_countAll 19 = .ok (.aload_n 1, 1) := by decide +kernel
theorem dX0_countAll_20 : decode cX0_countAll 20 = .ok (.iload_n 2, 1) := by decide +kernel
theorem dX0_countAll_21 : decode cX0_countAll 21 = .ok (.iload_n 3, 1) := by decide +kernel
theorem dX0_countAll_22 : decode cX0_countAll 22 = .ok (.invokevirtual 57, 3) := by decide +kernel
theorem dX0_countAll_25 : decode cX0_countAll 25 = .ok (.i2l, 1) := by decide +kernel
theorem dX0_countAll_26 : decode cX0_countAll 26 = .ok (.invokevirtual 86, 3) := by decide +kernel
theorem dX0_countAll_29 : decode cX0_countAll 29 = .ok (.iinc 3 1, 3) := by decide +kernel
theorem dX0_countAll_32 : decode cX0_countAll 32 = .ok (.goto (-22), 3) := by decide +kernel
theorem dX0_countAll_35 : decode cX0_countAll 35 = .ok (.iinc 2 1, 3) := by decide +kernel
theorem dX0_countAll_38 : decode cX0_countAll 38 = .ok (.goto (-36), 3) := by decide +kernel
theorem dX0_countAll_41 : decode cX0_countAll 41 = .ok (.return_, 1) := by decide +kernel
theorem dX0_countBehind_0 : decode cX0_countBehind 0 = .ok (.iconst 0, 1) := by decide +kernel
theorem dX0_countBehind_1 : decode cX0_countBehind 1 = .ok (.istore_n 3, 1) := by decide +kernel
theorem dX0_countBehind_2 : decode cX0_countBehind 2 = .ok (.iload_n 3, 1) := by decide +kernel
theorem dX0_countBehind_3 : decode cX0_countBehind 3 = .ok (.bipush 32, 2) := by decide +kernel
theorem dX0_countBehind_5 : decode cX0_countBehind 5 = .ok (.if_icmp .ge 62, 3) := by decide +kernel
theorem dX0_countBehind_8 : decode cX0_countBehind 8 = .ok (.iconst 0, 1) := by decide +kernel
theorem dX0_countBehind_9 : decode cX0_countBehind 9 = .ok (.istore 4, 2) := by decide +kernel
theorem dX0_countBehind_11 : decode cX0_countBehind 11 = .ok (.iload 4, 2) := by decide +kernel
theorem dX0_countBehind_13 : decode cX0_countBehind 13 = .ok (.bipush 32, 2) := by decide +kernel
theorem dX0_countBehind_15 : decode cX0_countBehind 15 = .ok (.if_icmp .ge 46, 3) := by decide +kernel
theorem dX0_countBehind_18 : decode cX0_countBehind 18 = .ok (.aload_n 1, 1) := by decide +kernel
theorem dX0_countBehind_19 : decode cX0_countBehind 19 = .ok (.iload_n 3, 1) := by decide +kernel
theorem dX0_countBehind_20 : decode cX0_countBehind 20 = .ok (.iload 4, 2) := by decide +kernel
theorem dX0_countBehind_22 : decode cX0_countBehind 22 = .ok (.invokevirtual 57, 3) := by decide +kernel
theorem dX0_countBehind_25 : decode cX0_countBehind 25 = .ok (.i2l, 1) := by decide +kernel
theorem dX0_countBehind_26 : decode cX0_countBehind 26 = .ok (.lstore 5, 2) := by decide +kernel
theorem dX0_countBehind_28 : decode cX0_countBehind 28 = .ok (.lload 5, 2) := by decide +kernel
theorem dX0_countBehind_30 : decode cX0_countBehind 30 = .ok (.lconst 0, 1) := by decide +kernel
theorem dX0_countBehind_31 : decode cX0_countBehind 31 = .ok (.lcmp, 1) := by decide +kernel
theorem dX0_countBehind_32 : decode cX0_countBehind 32 = .ok (.ifCond .eq 23, 3) := by decide +kernel
theorem dX0_countBehind_35 : decode cX0_countBehind 35 = .ok (.aload_n 2, 1) := by decide +kernel
theorem dX0_countBehind_36 : decode cX0_countBehind 36 = .ok (.getfield 36, 3) := by decide +kernel
theorem dX0_countBehind_39 : decode cX0_countBehind 39 = .ok (.iload 4, 2) := by decide +kernel
theorem dX0_countBehind_41 : decode cX0_countBehind 41 = .ok (.iaload, 1) := by decide +kernel
theorem dX0_countBehind_42 : decode cX0_countBehind 42 = .ok (.ifCond .eq 13, 3) := by decide +kernel
theorem dX0_countBehind_45 : decode cX0_countBehind 45 = .ok (.aload_n 0, 1) := by decide +kernel
theorem dX0_countBehind_46 : decode cX0_countBehind 46 = .ok (.iload_n 3, 1) := by decide +kernel
theorem dX0_countBehind_47 : decode cX0_countBehind 47 = .ok (.lload 5, 2) := by decide +kernel
theorem dX0_countBehind_49 : decode cX0_countBehind 49 = .ok (.aload_n 2, 1) := by decide +kernel
theorem dX0_countBehind_50 : decode cX0_countBehind 50 = .ok (.iload 4, 2) := by decide +kernel
theorem dX0_countBehind_52 : decode cX0_countBehind 52 = .ok (.invokevirtual 106, 3) := by decide +kernel
theorem dX0_countBehind_55 : decode cX0_countBehind 55 = .ok (.iinc 4 1, 3) := by decide +kernel
theorem dX0_countBehind_58 : decode cX0_countBehind 58 = .ok (.goto (-47), 3) := by decide +kernel
theorem dX0_countBehind_61 : decode cX0_countBehind 61 = .ok (.iinc 3 1, 3) := by decide +kernel
theorem dX0_countBehind_64 : decode cX0_countBehind 64 = .ok (.goto (-62), 3) := by decide +kernel
theorem dX0_countBehind_67 : decode cX0_countBehind 67 = .ok (.return_, 1) := by decide +kernel
theorem dX0_addBehind_0 : decode cX0_addBehind 0 = .ok (.iconst 0, 1) := by decide +kernel
theorem dX0_addBehind_1 : decode cX0_addBehind 1 = .ok (.istore 6, 2) := by decide +kernel
theorem dX0_addBehind_3 : decode cX0_addBehind 3 = .ok (.iload 6, 2) := by decide +kernel
theorem dX0_addBehind_5 : decode cX0_addBehind 5 = .ok (.bipush 32, 2) := by decide +kernel
theorem dX0_addBehind_7 : decode cX0_addBehind 7 = .ok (.if_icmp .ge 28, 3) := by decide +kernel
theorem dX0_addBehind_10 : decode cX0_addBehind 10 = .ok (.aload_n 0, 1) := by decide +kernel
theorem dX0_addBehind_11 : decode cX0_addBehind 11 = .ok (.iload_n 1, 1) := by decide +kernel
theorem dX0_addBehind_12 : decode cX0_addBehind 12 = .ok (.iload 6, 2) := by decide +kernel
theorem dX0_addBehind_14 : decode cX0_addBehind 14 = .ok (.lload_n 2, 1) := by decide +kernel
theorem dX0_addBehind_15 : decode cX0_addBehind 15 = .ok (.aload 4, 2) := by decide +kernel
theorem dX0_addBehind_17 : decode cX0_addBehind 17 = .ok (.iload 5, 2) := by decide +kernel
theorem dX0_addBehind_19 : decode cX0_addBehind 19 = .ok (.iload 6, 2) := by decide +kernel
theorem dX0_addBehind_21 : decode cX0_addBehind 21 = .ok (.invokevirtual 57, 3) := by decide +kernel
theorem dX0_addBehind_24 : decode cX0_addBehind 24 = .ok (.i2l, 1) := by decide +kernel
theorem dX0_addBehind_25 : decode cX0_addBehind 25 = .ok (.lmul, 1) := by decide +kernel
theorem dX0_addBehind_26 : decode cX0_addBehind 26 = .ok (.invokevirtual 86, 3) := by decide +kernel
theorem dX0_addBehind_29 : decode cX0_addBehind 29 = .ok (.iinc 6 1, 3) := by decide +kernel
theorem dX0_addBehind_32 : decode cX0_addBehind 32 = .ok (.goto (-29), 3) := by decide +kernel
theorem dX0_addBehind_35 : decode cX0_addBehind 35 = .ok (.return_, 1) := by decide +kernel
theorem dX0_joinByStep_0 : decode cX0_joinByStep 0 = .ok (.iconst 0, 1) := by decide +kernel
theorem dX0_joinByStep_1 : decode cX0_joinByStep 1 = .ok (.istore_n 3, 1) := by decide +kernel
theorem dX0_joinByStep_2 : decode cX0_joinByStep 2 = .ok (.iload_n 3, 1) := by decide +kernel
theorem dX0_joinByStep_3 : decode cX0_joinByStep 3 = .ok (.bipush 32, 2) := by decide +kernel
theorem dX0_joinByStep_5 : decode cX0_joinByStep 5 = .ok (.if_icmp .ge 21, 3) := by decide +kernel
theorem dX0_joinByStep_8 : decode cX0_joinByStep 8 = .ok (.aload_n 0, 1) := by decide +kernel
theorem dX0_joinByStep_9 : decode cX0_joinByStep 9 = .ok (.getfield 36, 3) := by decide +kernel
theorem dX0_joinByStep_12 : decode cX0_joinByStep 12 = .ok (.iload_n 3, 1) := by decide +kernel
theorem dX0_joinByStep_13 : decode cX0_joinByStep 13 = .ok (.aload_n 1, 1) := by decide +kernel
theorem dX0_joinByStep_14 : decode cX0_joinByStep 14 = .ok (.getfield 36, 3) := by decide +kernel
theorem dX0_joinByStep_17 : decode cX0_joinByStep 17 = .ok (.iload_n 3, 1) := by decide +kernel
theorem dX0_joinByStep_18 : decode cX0_joinByStep 18 = .ok (.iaload, 1) := by decide +kernel
theorem dX0_joinByStep_19 : decode cX0_joinByStep 19 = .ok (.iastore, 1) := by decide +kernel
theorem dX0_joinByStep_20 : decode cX0_joinByStep 20 = .ok (.iinc 3 1, 3) := by decide +kernel
theorem dX0_joinByStep_23 : decode cX0_joinByStep 23 = .ok (.goto (-21), 3) := by decide +kernel
theorem dX0_joinByStep_26 : decode cX0_joinByStep 26 = .ok (.aload_n 0, 1) := by decide +kernel
theorem dX0_joinByStep_27 : decode cX0_joinByStep 27 = .ok (.invokevirtual 110, 3) := by decide +kernel
theorem dX0_joinByStep_30 : decode cX0_joinByStep 30 = .ok (.ifCond .eq 7, 3) := by decide +kernel
theorem dX0_joinByStep_33 : decode cX0_joinByStep 33 = .ok (.aload_n 0, 1) := by decide +kernel
theorem dX0_joinByStep_34 : decode cX0_joinByStep 34 = .ok (.invokevirtual 114, 3) := by decide +kernel
theorem dX0_joinByStep_37 : decode cX0_joinByStep 37 = .ok (.aload_n 0, 1) := by decide +kernel
theorem dX0_joinByStep_38 : decode cX0_joinByStep 38 = .ok (.getfield 15, 3) := by decide +kernel
theorem dX0_joinByStep_41 : decode cX0_joinByStep 41 = .ok (.iconst 5, 1) := by decide +kernel
theorem dX0_joinByStep_42 : decode cX0_joinByStep 42 = .ok (.if_icmp .eq 8, 3) := by decide +kernel
theorem dX0_joinByStep_45 : decode cX0_joinByStep 45 = .ok (.aload_n 0, 1) := by decide +kernel
theorem dX0_joinByStep_46 : decode cX0_joinByStep 46 = .ok (.iload_n 2, 1) := by decide +kernel
theorem dX0_joinByStep_47 : decode cX0_joinByStep 47 = .ok (.invokevirtual 117, 3) := by decide +kernel
theorem dX0_joinByStep_50 : decode cX0_joinByStep 50 = .ok (.return_, 1) := by decide +kernel
theorem dX0_joinOnwards_0 : decode cX0_joinOnwards 0 = .ok (.iconst 0, 1) := by decide +kernel
theorem dX0_joinOnwards_1 : decode cX0_joinOnwards 1 = .ok (.istore_n 1, 1) := by decide +kernel
theorem dX0_joinOnwards_2 : decode cX0_joinOnwards 2 = .ok (.iload_n 1, 1) := by decide +kernel
theorem dX0_joinOnwards_3 : decode cX0_joinOnwards 3 = .ok (.bipush 32, 2) := by decide +kernel
theorem dX0_joinOnwards_5 : decode cX0_joinOnwards 5 = .ok (.if_icmp .ge 51, 3) := by decide +kernel
theorem dX0_joinOnwards_8 : decode cX0_joinOnwards 8 = .ok (.iconst 0, 1) := by decide +kernel
theorem dX0_joinOnwards_9 : decode cX0_joinOnwards 9 = .ok (.istore_n 2, 1) := by decide +kernel
theorem dX0_joinOnwards_10 : decode cX0_joinOnwards 10 = .ok (.iload_n 2, 1) := by decide +kernel
theorem dX0_joinOnwards_11 : decode cX0_joinOnwards 11 = .ok (.bipush 32, 2) := by decide +kernel
theorem dX0_joinOnwards_13 : decode cX0_joinOnwards 13 = .ok (.if_icmp .ge 37, 3) := by decide +kernel
theorem dX0_joinOnwards_16 : decode cX0_joinOnwards 16 = .ok (.aload_n 0, 1) := by decide +kernel
theorem dX0_joinOnwards_17 : decode cX0_joinOnwards 17 = .ok (.getfield 36, 3) := by decide +kernel
theorem dX0_joinOnwards_20 : decode cX0_joinOnwards 20 = .ok (.iload_n 2, 1) := by decide +kernel
theorem dX0_joinOnwards_21 : decode cX0_joinOnwards 21 = .ok (.iaload, 1) := by decide +kernel
theorem dX0_joinOnwards_22 : decode cX0_joinOnwards 22 = .ok (.iload_n 1, 1) := by decide +kernel
theorem dX0_joinOnwards_23 : decode cX0_joinOnwards 23 = .ok (.invokestatic 121, 3) := by decide +kernel
theorem dX0_joinOnwards_26 : decode cX0_joinOnwards 26 = .ok (.ifCond .eq 18, 3) := by decide +kernel
theorem dX0_joinOnwards_29 : decode cX0_joinOnwards 29 = .ok (.aload_n 0, 1) := by decide +kernel
theorem dX0_joinOnwards_30 : decode cX0_joinOnwards 30 = .ok (.getfield 36, 3) := by decide +kernel
theorem dX0_joinOnwards_33 : decode cX0_joinOnwards 33 = .ok (.iload_n 2, 1) := by decide +kernel
theorem dX0_joinOnwards_34 : decode cX0_joinOnwards 34 = .ok (.dup2, 1) := by decide +kernel
theorem dX0_joinOnwards_35 : decode cX0_joinOnwards 35 = .ok (.iaload, 1) := by decide +kernel
theorem dX0_joinOnwards_36 : decode cX0_joinOnwards 36 = .ok (.aload_n 0, 1) := by decide +kernel
theorem dX0_joinOnwards_37 : decode cX0_joinOnwards 37 = .ok (.getfield 36, 3) := by decide +kernel
theorem dX0_joinOnwards_40 : decode cX0_joinOnwards 40 = .ok (.iload_n 1, 1) := by decide +kernel
theorem dX0_joinOnwards_41 : decode cX0_joinOnwards 41 = .ok (.iaload, 1) := by decide +kernel
theorem dX0_joinOnwards_42 : decode cX0_joinOnwards 42 = .ok (.ior, 1) := by decide +kernel
theorem dX0_joinOnwards_43 : decode cX0_joinOnwards 43 = .ok (.iastore, 1) := by decide +kernel
theorem dX0_joinOnwards_44 : decode cX0_joinOnwards 44 = .ok (.iinc 2 1, 3) := by decide +kernel
theorem dX0_joinOnwards_47 : decode cX0_joinOnwards 47 = .ok (.goto (-37), 3) := by decide +kernel
theorem dX0_joinOnwards_50 : decode cX0_joinOnwards 50 = .ok (.iinc 1 1, 3) := by decide +kernel
theorem dX0_joinOnwards_53 : decode cX0_joinOnwards 53 = .ok (.goto (-51), 3) := by decide +kernel
theorem dX0_joinOnwards_56 : decode cX0_joinOnwards 56 = .ok (.return_, 1) := by decide +kernel
theorem dX0_joinSelves_0 : decode cX0_joinSelves 0 = .ok (.iconst 0, 1) := by decide +kernel
theorem dX0_joinSelves_1 : decode cX0_joinSelves 1 = .ok (.istore_n 2, 1) := by decide +kernel
theorem dX0_joinSelves_2 : decode cX0_joinSelves 2 = .ok (.iload_n 2, 1) := by decide +kernel
theorem dX0_joinSelves_3 : decode cX0_joinSelves 3 = .ok (.bipush 32, 2) := by decide +kernel
theorem dX0_joinSelves_5 : decode cX0_joinSelves 5 = .ok (.if_icmp .ge 23, 3) := by decide +kernel
theorem dX0_joinSelves_8 : decode cX0_joinSelves 8 = .ok (.aload_n 0, 1) := by decide +kernel
theorem dX0_joinSelves_9 : decode cX0_joinSelves 9 = .ok (.getfield 36, 3) := by decide +kernel
theorem dX0_joinSelves_12 : decode cX0_joinSelves 12 = .ok (.iload_n 2, 1) := by decide +kernel
theorem dX0_joinSelves_13 : decode cX0_joinSelves 13 = .ok (.dup2, 1) := by decide +kernel
theorem dX0_joinSelves_14 : decode cX0_joinSelves 14 = .ok (.iaload, 1) := by decide +kernel
theorem dX0_joinSelves_15 : decode cX0_joinSelves 15 = .ok (.iload_n 1, 1) := by decide +kernel
theorem dX0_joinSelves_16 : decode cX0_joinSelves 16 = .ok (.iconst 1, 1) := by decide +kernel
theorem dX0_joinSelves_17 : decode cX0_joinSelves 17 = .ok (.iload_n 2, 1) := by decide +kernel
theorem dX0_joinSelves_18 : decode cX0_joinSelves 18 = .ok (.ishl, 1) := by decide +kernel
theorem dX0_joinSelves_19 : decode cX0_joinSelves 19 = .ok (.iand, 1) := by decide +kernel
theorem dX0_joinSelves_20 : decode cX0_joinSelves 20 = .ok (.ior, 1) := by decide +kernel
theorem dX0_joinSelves_21 : decode cX0_joinSelves 21 = .ok (.iastore, 1) := by decide +kernel
theorem dX0_joinSelves_22 : decode cX0_joinSelves 22 = .ok (.iinc 2 1, 3) := by decide +kernel
theorem dX0_joinSelves_25 : decode cX0_joinSelves 25 = .ok (.goto (-23), 3) := by decide +kernel
theorem dX0_joinSelves_28 : decode cX0_joinSelves 28 = .ok (.return_, 1) := by decide +kernel
theorem dX0_countJoinedOnce_0 : decode cX0_countJoinedOnce 0 = .ok (.iconst 0, 1) := by decide +kernel
theorem dX0_countJoinedOnce_1 : decode cX0_countJoinedOnce 1 = .ok (.istore_n 1, 1) := by decide +kernel
theorem dX0_countJoinedOnce_2 : decode cX0_countJoinedOnce 2 = .ok (.iload_n 1, 1) := by decide +kernel
theorem dX0_countJoinedOnce_3 : decode cX0_countJoinedOnce 3 = .ok (.bipush 32, 2) := by decide +kernel
theorem dX0_countJoinedOnce_5 : decode cX0_countJoinedOnce 5 = .ok (.if_icmp .ge 44, 3) := by decide +kernel
theorem dX0_countJoinedOnce_8 : decode cX0_countJoinedOnce 8 = .ok (.iconst 0, 1) := by decide +kernel
theorem dX0_countJoinedOnce_9 : decode cX0_countJoinedOnce 9 = .ok (.istore_n 2, 1) := by decide +kernel
theorem dX0_countJoinedOnce_10 : decode cX0_countJoinedOnce 10 = .ok (.iload_n 2, 1) := by decide +kernel
theorem dX0_countJoinedOnce_11 : decode cX0_countJoinedOnce 11 = .ok (.bipush 32, 2) := by decide +kernel
theorem dX0_countJoinedOnce_13 : decode cX0_countJoinedOnce 13 = .ok (.if_icmp .ge 30, 3) := by decide +kernel
theorem dX0_countJoinedOnce_16 : decode cX0_countJoinedOnce 16 = .ok (.aload_n 0, 1) := by decide +kernel
theorem dX0_countJoinedOnce_17 : decode cX0_countJoinedOnce 17 = .ok (.getfield 32, 3) := by decide +kernel
theorem dX0_countJoinedOnce_20 : decode cX0_countJoinedOnce 20 = .ok (.iload_n 1, 1) := by decide +kernel
theorem dX0_countJoinedOnce_21 : decode cX0_countJoinedOnce 21 = .ok (.bipush 32, 2) := by decide +kernel
theorem dX0_countJoinedOnce_23 : decode cX0_countJoinedOnce 23 = .ok (.imul, 1) := by decide +kernel
theorem dX0_countJoinedOnce_24 : decode cX0_countJoinedOnce 24 = .ok (.iload_n 2, 1) := by decide +kernel
theorem dX0_countJoinedOnce_25 : decode cX0_countJoinedOnce 25 = .ok (.iadd, 1) := by decide +kernel
theorem dX0_countJoinedOnce_26 : decode cX0_countJoinedOnce 26 = .ok (.aload_n 0, 1) := by decide +kernel
theorem dX0_countJoinedOnce_27 : decode cX0_countJoinedOnce 27 = .ok (.getfield 36, 3) := by decide +kernel
theorem dX0_countJoinedOnce_30 : decode cX0_countJoinedOnce 30 = .ok (.iload_n 1, 1) := by decide +kernel
theorem dX0_countJoinedOnce_31 : decode cX0_countJoinedOnce 31 = .ok (.iaload, 1) := by decide +kernel
theorem dX0_countJoinedOnce_32 : decode cX0_countJoinedOnce 32 = .ok (.iload_n 2, 1) := by decide +kernel
theorem dX0_countJoinedOnce_33 : decode cX0_countJoinedOnce 33 = .ok (.iushr, 1) := by decide +kernel
theorem dX0_countJoinedOnce_34 : decode cX0_countJoinedOnce 34 = .ok (.iconst 1, 1) := by decide +kernel
theorem dX0_countJoinedOnce_35 : decode cX0_countJoinedOnce 35 = .ok (.iand, 1) := by decide +kernel
theorem dX0_countJoinedOnce_36 : decode cX0_countJoinedOnce 36 = .ok (.iastore, 1) := by decide +kernel
theorem dX0_countJoinedOnce_37 : decode cX0_countJoinedOnce 37 = .ok (.iinc 2 1, 3) := by decide +kernel
theorem dX0_countJoinedOnce_40 : decode cX0_countJoinedOnce 40 = .ok (.goto (-30), 3) := by decide +kernel
theorem dX0_countJoinedOnce_43 : decode cX0_countJoinedOnce 43 = .ok (.iinc 1 1, 3) := by decide +kernel
theorem dX0_countJoinedOnce_46 : decode cX0_countJoinedOnce 46 = .ok (.goto (-44), 3) := by decide +kernel
theorem dX0_countJoinedOnce_49 : decode cX0_countJoinedOnce 49 = .ok (.return_, 1) := by decide +kernel
theorem dX0_measure_0 : decode cX0_measure 0 = .ok (.iconst 0, 1) := by decide +kernel
theorem dX0_measure_1 : decode cX0_measure 1 = .ok (.istore_n 3, 1) := by decide +kernel
theorem dX0_measure_2 : decode cX0_measure 2 = .ok (.iload_n 3, 1) := by decide +kernel
theorem dX0_measure_3 : decode cX0_measure 3 = .ok (.bipush 32, 2) := by decide +kernel
theorem dX0_measure_5 : decode cX0_measure 5 = .ok (.if_icmp .ge 13, 3) := by decide +kernel
theorem dX0_measure_8 : decode cX0_measure 8 = .ok (.aload_n 2, 1) := by decide +kernel
theorem dX0_measure_9 : decode cX0_measure 9 = .ok (.iload_n 3, 1) := by decide +kernel
theorem dX0_measure_10 : decode cX0_measure 10 = .ok (.iconst 1, 1) := by decide +kernel
theorem dX0_measure_11 : decode cX0_measure 11 = .ok (.iastore, 1) := by decide +kernel
theorem dX0_measure_12 : decode cX0_measure 12 = .ok (.iinc 3 1, 3) := by decide +kernel
theorem dX0_measure_15 : decode cX0_measure 15 = .ok (.goto (-13), 3) := by decide +kernel
theorem dX0_measure_18 : decode cX0_measure 18 = .ok (.aload_n 0, 1) := by decide +kernel
theorem dX0_measure_19 : decode cX0_measure 19 = .ok (.getfield 21, 3) := by decide +kernel
theorem dX0_measure_22 : decode cX0_measure 22 = .ok (.ifnull 19, 3) := by decide +kernel
theorem dX0_measure_25 : decode cX0_measure 25 = .ok (.aload_n 0, 1) := by decide +kernel
theorem dX0_measure_26 : decode cX0_measure 26 = .ok (.invokevirtual 110, 3) := by decide +kernel
theorem dX0_measure_29 : decode cX0_measure 29 = .ok (.ifCond .eq 12, 3) := by decide +kernel
theorem dX0_measure_32 : decode cX0_measure 32 = .ok (.aload_n 0, 1) := by decide +kernel
theorem dX0_measure_33 : decode cX0_measure 33 = .ok (.getfield 21, 3) := by decide +kernel
theorem dX0_measure_36 : decode cX0_measure 36 = .ok (.iload_n 1, 1) := by decide +kernel
theorem dX0_measure_37 : decode cX0_measure 37 = .ok (.aload_n 2, 1) := by decide +kernel
theorem dX0_measure_38 : decode cX0_measure 38 = .ok (.invokestatic 125, 3) := by decide +kernel
theorem dX0_measure_41 : decode cX0_measure 41 = .ok (.aload_n 0, 1) := by decide +kernel
theorem dX0_measure_42 : decode cX0_measure 42 = .ok (.getfield 15, 3) := by decide +kernel
theorem dX0_measure_45 : decode cX0_measure 45 = .ok (.iconst 4, 1) := by decide +kernel
theorem dX0_measure_46 : decode cX0_measure 46 = .ok (.if_icmp .eq 12, 3) := by decide +kernel
theorem dX0_measure_49 : decode cX0_measure 49 = .ok (.aload_n 0, 1) := by decide +kernel
theorem dX0_measure_50 : decode cX0_measure 50 = .ok (.getfield 15, 3) := by decide +kernel
theorem dX0_measure_53 : decode cX0_measure 53 = .ok (.bipush 6, 2) := by decide +kernel
theorem dX0_measure_55 : decode cX0_measure 55 = .ok (.if_icmp .ne 7, 3) := by decide +kernel
theorem dX0_measure_58 : decode cX0_measure 58 = .ok (.aload_n 2, 1) := by decide +kernel
theorem dX0_measure_59 : decode cX0_measure 59 = .ok (.iload_n 1, 1) := by decide +kernel
theorem dX0_measure_60 : decode cX0_measure 60 = .ok (.iconst 0, 1) := by decide +kernel
theorem dX0_measure_61 : decode cX0_measure 61 = .ok (.iastore, 1) := by decide +kernel
theorem dX0_measure_62 : decode cX0_measure 62 = .ok (.return_, 1) := by decide +kernel
theorem dX0_measureWalk_0 : decode cX0_measureWalk 0 = .ok (.iconst 0, 1) := by decide +kernel
theorem dX0_measureWalk_1 : decode cX0_measureWalk 1 = .ok (.istore_n 3, 1) := by decide +kernel
theorem dX0_measureWalk_2 : decode cX0_measureWalk 2 = .ok (.aload_n 0, 1) := by decide +kernel
theorem dX0_measureWalk_3 : decode cX0_measureWalk 3 = .ok (.getfield 36, 3) := by decide +kernel
theorem dX0_measureWalk_6 : decode cX0_measureWalk 6 = .ok (.iload_n 1, 1) := by decide +kernel
theorem dX0_measureWalk_7 : decode cX0_measureWalk 7 = .ok (.iaload, 1) := by decide +kernel
theorem dX0_measureWalk_8 : decode cX0_measureWalk 8 = .ok (.istore 4, 2) := by decide +kernel
theorem dX0_measureWalk_10 : decode cX0_measureWalk 10 = .ok (.iconst 1, 1) := by decide +kernel
theorem dX0_measureWalk_11 : decode cX0_measureWalk 11 = .ok (.istore 5, 2) := by decide +kernel
theorem dX0_measureWalk_13 : decode cX0_measureWalk 13 = .ok (.iload 5, 2) := by decide +kernel
theorem dX0_measureWalk_15 : decode cX0_measureWalk 15 = .ok (.bipush 32, 2) := by decide +kernel
theorem dX0_measureWalk_17 : decode cX0_measureWalk 17 = .ok (.if_icmp .gt 74, 3) := by decide +kernel
theorem dX0_measureWalk_20 : decode cX0_measureWalk 20 = .ok (.iload 4, 2) := by decide +kernel
theorem dX0_measureWalk_22 : decode cX0_measureWalk 22 = .ok (.ifCond .eq 69, 3) := by decide +kernel
theorem dX0_measureWalk_25 : decode cX0_measureWalk 25 = .ok (.iconst 0, 1) := by decide +kernel
theorem dX0_measureWalk_26 : decode cX0_measureWalk 26 = .ok (.istore 6, 2) := by decide +kernel
theorem dX0_measureWalk_28 : decode cX0_measureWalk 28 = .ok (.iconst 0, 1) := by decide +kernel
theorem dX0_measureWalk_29 : decode cX0_measureWalk 29 = .ok (.istore 7, 2) := by decide +kernel
theorem dX0_measureWalk_31 : decode cX0_measureWalk 31 = .ok (.iload 7, 2) := by decide +kernel
theorem dX0_measureWalk_33 : decode cX0_measureWalk 33 = .ok (.bipush 32, 2) := by decide +kernel
theorem dX0_measureWalk_35 : decode cX0_measureWalk 35 = .ok (.if_icmp .ge 37, 3) := by decide +kernel
theorem dX0_measureWalk_38 : decode cX0_measureWalk 38 = .ok (.iload 4, 2) := by decide +kernel
theorem dX0_measureWalk_40 : decode cX0_measureWalk 40 = .ok (.iload 7, 2) := by decide +kernel
theorem dX0_measureWalk_42 : decode cX0_measureWalk 42 = .ok (.invokestatic 121, 3) := by decide +kernel
theorem dX0_measureWalk_45 : decode cX0_measureWalk 45 = .ok (.ifCond .eq 21, 3) := by decide +kernel
theorem dX0_measureWalk_48 : decode cX0_measureWalk 48 = .ok (.aload_n 2, 1) := by decide +kernel
theorem dX0_measureWalk_49 : decode cX0_measureWalk 49 = .ok (.iload 7, 2) := by decide +kernel
theorem dX0_measureWalk_51 : decode cX0_measureWalk 51 = .ok (.iload 5, 2) := by decide +kernel
theorem dX0_measureWalk_53 : decode cX0_measureWalk 53 = .ok (.iastore, 1) := by decide +kernel
theorem dX0_measureWalk_54 : decode cX0_measureWalk 54 = .ok (.iload 6, 2) := by decide +kernel
theorem dX0_measureWalk_56 : decode cX0_measureWalk 56 = .ok (.aload_n 0, 1) := by decide +kernel
theorem dX0_measureWalk_57 : decode cX0_measureWalk 57 = .ok (.getfield 36, 3) := by decide +kernel
theorem dX0_measureWalk_60 : decode cX0_measureWalk 60 = .ok (.iload 7, 2) := by decide +kernel
theorem dX0_measureWalk_62 : decode cX0_measureWalk 62 = .ok (.iaload, 1) := by decide +kernel
theorem dX0_measureWalk_63 : decode cX0_measureWalk 63 = .ok (.ior, 1) := by decide +kernel
theorem dX0_measureWalk_64 : decode cX0_measureWalk 64 = .ok (.istore 6, 2) := by decide +kernel
theorem dX0_measureWalk_66 : decode cX0_measureWalk 66 = .ok (.iinc 7 1, 3) := by decide +kernel
theorem dX0_measureWalk_69 : decode cX0_measureWalk 69 = .ok (.goto (-38), 3) := by decide +kernel
theorem dX0_measureWalk_72 : decode cX0_measureWalk 72 = .ok (.iload_n 3, 1) := by decide +kernel
theorem dX0_measureWalk_73 : decode cX0_measureWalk 73 = .ok (.iload 4, 2) := by decide +kernel
theorem dX0_measureWalk_75 : decode cX0_measureWalk 75 = .ok (.ior, 1) := by decide +kernel
theorem dX0_measureWalk_76 : decode cX0_measureWalk 76 = .ok (.istore_n 3, 1) := by decide +kernel
theorem dX0_measureWalk_77 : decode cX0_measureWalk 77 = .ok (.iload 6, 2) := by decide +kernel
theorem dX0_measureWalk_79 : decode cX0_measureWalk 79 = .ok (.iload_n 3, 1) := by decide +kernel
theorem dX0_measureWalk_80 : decode cX0_measureWalk 80 = .ok (.iconst (-1), 1) := by decide +kernel
theorem dX0_measureWalk_81 : decode cX0_measureWalk 81 = .ok (.ixor, 1) := by decide +kernel
theorem dX0_measureWalk_82 : decode cX0_measureWalk 82 = .ok (.iand, 1) := by decide +kernel
theorem dX0_measureWalk_83 : decode cX0_measureWalk 83 = .ok (.istore 4, 2) := by decide +kernel
theorem dX0_measureWalk_85 : decode cX0_measureWalk 85 = .ok (.iinc 5 1, 3) := by decide +kernel
theorem dX0_measureWalk_88 : decode cX0_measureWalk 88 = .ok (.goto (-75), 3) := by decide +kernel
theorem dX0_measureWalk_91 : decode cX0_measureWalk 91 = .ok (.return_, 1) := by decide +kernel
