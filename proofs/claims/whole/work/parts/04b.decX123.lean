theorem dX1_init_0 : decode cX1_init 0 = .ok (.aload_n 0, 1) := by decide +kernel
theorem dX1_init_1 : decode cX1_init 1 = .ok (.invokespecial 3, 3) := by decide +kernel
theorem dX1_init_4 : decode cX1_init 4 = .ok (.aload_n 0, 1) := by decide +kernel
theorem dX1_init_5 : decode cX1_init 5 = .ok (.sipush 2000, 3) := by decide +kernel
theorem dX1_init_8 : decode cX1_init 8 = .ok (.newarray .int, 2) := by decide +kernel
theorem dX1_init_10 : decode cX1_init 10 = .ok (.putfield 9, 3) := by decide +kernel
theorem dX1_init_13 : decode cX1_init 13 = .ok (.aload_n 0, 1) := by decide +kernel
theorem dX1_init_14 : decode cX1_init 14 = .ok (.sipush 2000, 3) := by decide +kernel
theorem dX1_init_17 : decode cX1_init 17 = .ok (.newarray .int, 2) := by decide +kernel
theorem dX1_init_19 : decode cX1_init 19 = .ok (.putfield 15, 3) := by decide +kernel
theorem dX1_init_22 : decode cX1_init 22 = .ok (.aload_n 0, 1) := by decide +kernel
theorem dX1_init_23 : decode cX1_init 23 = .ok (.sipush 2000, 3) := by decide +kernel
theorem dX1_init_26 : decode cX1_init 26 = .ok (.newarray .int, 2) := by decide +kernel
theorem dX1_init_28 : decode cX1_init 28 = .ok (.putfield 18, 3) := by decide +kernel
theorem dX1_init_31 : decode cX1_init 31 = .ok (.aload_n 0, 1) := by decide +kernel
theorem dX1_init_32 : decode cX1_init 32 = .ok (.iconst 0, 1) := by decide +kernel
theorem dX1_init_33 : decode cX1_init 33 = .ok (.putfield 21, 3) := by decide +kernel
theorem dX1_init_36 : decode cX1_init 36 = .ok (.aload_n 0, 1) := by decide +kernel
theorem dX1_init_37 : decode cX1_init 37 = .ok (.iconst 0, 1) := by decide +kernel
theorem dX1_init_38 : decode cX1_init 38 = .ok (.putfield 25, 3) := by decide +kernel
theorem dX1_init_41 : decode cX1_init 41 = .ok (.return_, 1) := by decide +kernel
theorem dX1_begin_0 : decode cX1_begin 0 = .ok (.aload_n 0, 1) := by decide +kernel
theorem dX1_begin_1 : decode cX1_begin 1 = .ok (.iconst 0, 1) := by decide +kernel
theorem dX1_begin_2 : decode cX1_begin 2 = .ok (.putfield 21, 3) := by decide +kernel
theorem dX1_begin_5 : decode cX1_begin 5 = .ok (.aload_n 0, 1) := by decide +kernel
theorem dX1_begin_6 : decode cX1_begin 6 = .ok (.iconst 1, 1) := by decide +kernel
theorem dX1_begin_7 : decode cX1_begin 7 = .ok (.putfield 25, 3) := by decide +kernel
theorem dX1_begin_10 : decode cX1_begin 10 = .ok (.return_, 1) := by decide +kernel
theorem dX1_add_0 : decode cX1_add 0 = .ok (.iconst 0, 1) := by decide +kernel
theorem dX1_add_1 : decode cX1_add 1 = .ok (.istore 5, 2) := by decide +kernel
theorem dX1_add_3 : decode cX1_add 3 = .ok (.iload 5, 2) := by decide +kernel
theorem dX1_add_5 : decode cX1_add 5 = .ok (.iload 4, 2) := by decide +kernel
theorem dX1_add_7 : decode cX1_add 7 = .ok (.if_icmp .ge 59, 3) := by decide +kernel
theorem dX1_add_10 : decode cX1_add 10 = .ok (.aload_n 0, 1) := by decide +kernel
theorem dX1_add_11 : decode cX1_add 11 = .ok (.getfield 21, 3) := by decide +kernel
theorem dX1_add_14 : decode cX1_add 14 = .ok (.sipush 2000, 3) := by decide +kernel
theorem dX1_add_17 : decode cX1_add 17 = .ok (.if_icmp .ge 49, 3) := by decide +kernel
theorem dX1_add_20 : decode cX1_add 20 = .ok (.aload_n 0, 1) := by decide +kernel
theorem dX1_add_21 : decode cX1_add 21 = .ok (.getfield 9, 3) := by decide +kernel
theorem dX1_add_24 : decode cX1_add 24 = .ok (.aload_n 0, 1) := by decide +kernel
theorem dX1_add_25 : decode cX1_add 25 = .ok (.getfield 21, 3) := by decide +kernel
theorem dX1_add_28 : decode cX1_add 28 = .ok (.iload_n 1, 1) := by decide +kernel
theorem dX1_add_29 : decode cX1_add 29 = .ok (.iastore, 1) := by decide +kernel
theorem dX1_add_30 : decode cX1_add 30 = .ok (.aload_n 0, 1) := by decide +kernel
theorem dX1_add_31 : decode cX1_add 31 = .ok (.getfield 15, 3) := by decide +kernel
theorem dX1_add_34 : decode cX1_add 34 = .ok (.aload_n 0, 1) := by decide +kernel
theorem dX1_add_35 : decode cX1_add 35 = .ok (.getfield 21, 3) := by decide +kernel
theorem dX1_add_38 : decode cX1_add 38 = .ok (.iload_n 2, 1) := by decide +kernel
theorem dX1_add_39 : decode cX1_add 39 = .ok (.iastore, 1) := by decide +kernel
theorem dX1_add_40 : decode cX1_add 40 = .ok (.aload_n 0, 1) := by decide +kernel
theorem dX1_add_41 : decode cX1_add 41 = .ok (.getfield 18, 3) := by decide +kernel
theorem dX1_add_44 : decode cX1_add 44 = .ok (.aload_n 0, 1) := by decide +kernel
theorem dX1_add_45 : decode cX1_add 45 = .ok (.getfield 21, 3) := by decide +kernel
theorem dX1_add_48 : decode cX1_add 48 = .ok (.iload_n 3, 1) := by decide +kernel
theorem dX1_add_49 : decode cX1_add 49 = .ok (.iastore, 1) := by decide +kernel
theorem dX1_add_50 : decode cX1_add 50 = .ok (.aload_n 0, 1) := by decide +kernel
theorem dX1_add_51 : decode cX1_add 51 = .ok (.dup, 1) := by decide +kernel
theorem dX1_add_52 : decode cX1_add 52 = .ok (.getfield 21, 3) := by decide +kernel
theorem dX1_add_55 : decode cX1_add 55 = .ok (.iconst 1, 1) := by decide +kernel
theorem dX1_add_56 : decode cX1_add 56 = .ok (.iadd, 1) := by decide +kernel
theorem dX1_add_57 : decode cX1_add 57 = .ok (.putfield 21, 3) := by decide +kernel
theorem dX1_add_60 : decode cX1_add 60 = .ok (.iinc 5 1, 3) := by decide +kernel
theorem dX1_add_63 : decode cX1_add 63 = .ok (.goto (-60), 3) := by decide +kernel
theorem dX1_add_66 : decode cX1_add 66 = .ok (.return_, 1) := by decide +kernel
theorem dX1_has_0 : decode cX1_has 0 = .ok (.iload_n 1, 1) := by decide +kernel
theorem dX1_has_1 : decode cX1_has 1 = .ok (.ifCond .lt 15, 3) := by decide +kernel
theorem dX1_has_4 : decode cX1_has 4 = .ok (.iload_n 1, 1) := by decide +kernel
theorem dX1_has_5 : decode cX1_has 5 = .ok (.aload_n 0, 1) := by decide +kernel
theorem dX1_has_6 : decode cX1_has 6 = .ok (.getfield 21, 3) := by decide +kernel
theorem dX1_has_9 : decode cX1_has 9 = .ok (.if_icmp .ge 7, 3) := by decide +kernel
theorem dX1_has_12 : decode cX1_has 12 = .ok (.iconst 1, 1) := by decide +kernel
theorem dX1_has_13 : decode cX1_has 13 = .ok (.goto 4, 3) := by decide +kernel
theorem dX1_has_16 : decode cX1_has 16 = .ok (.iconst 0, 1) := by decide +kernel
theorem dX1_has_17 : decode cX1_has 17 = .ok (.ireturn, 1) := by decide +kernel
theorem dX2_init_0 : decode cX2_init 0 = .ok (.aload_n 0, 1) := by decide +kernel
theorem dX2_init_1 : decode cX2_init 1 = .ok (.invokespecial 3, 3) := by decide +kernel
theorem dX2_init_4 : decode cX2_init 4 = .ok (.aload_n 0, 1) := by decide +kernel
theorem dX2_init_5 : decode cX2_init 5 = .ok (.sipush 1024, 3) := by decide +kernel
theorem dX2_init_8 : decode cX2_init 8 = .ok (.newarray .int, 2) := by decide +kernel
theorem dX2_init_10 : decode cX2_init 10 = .ok (.putfield 9, 3) := by decide +kernel
theorem dX2_init_13 : decode cX2_init 13 = .ok (.aload_n 0, 1) := by decide +kernel
theorem dX2_init_14 : decode cX2_init 14 = .ok (.iconst 0, 1) := by decide +kernel
theorem dX2_init_15 : decode cX2_init 15 = .ok (.putfield 15, 3) := by decide +kernel
theorem dX2_init_18 : decode cX2_init 18 = .ok (.aload_n 0, 1) := by decide +kernel
theorem dX2_init_19 : decode cX2_init 19 = .ok (.iconst 0, 1) := by decide +kernel
theorem dX2_init_20 : decode cX2_init 20 = .ok (.putfield 19, 3) := by decide +kernel
theorem dX2_init_23 : decode cX2_init 23 = .ok (.return_, 1) := by decide +kernel
theorem dX2_has_0 : decode cX2_has 0 = .ok (.aload_n 0, 1) := by decide +kernel
theorem dX2_has_1 : decode cX2_has 1 = .ok (.getfield 9, 3) := by decide +kernel
theorem dX2_has_4 : decode cX2_has 4 = .ok (.iload_n 1, 1) := by decide +kernel
theorem dX2_has_5 : decode cX2_has 5 = .ok (.bipush 32, 2) := by decide +kernel
theorem dX2_has_7 : decode cX2_has 7 = .ok (.imul, 1) := by decide +kernel
theorem dX2_has_8 : decode cX2_has 8 = .ok (.iload_n 3, 1) := by decide +kernel
theorem dX2_has_9 : decode cX2_has 9 = .ok (.iadd, 1) := by decide +kernel
theorem dX2_has_10 : decode cX2_has 10 = .ok (.iaload, 1) := by decide +kernel
theorem dX2_has_11 : decode cX2_has 11 = .ok (.iload_n 2, 1) := by decide +kernel
theorem dX2_has_12 : decode cX2_has 12 = .ok (.invokestatic 22, 3) := by decide +kernel
theorem dX2_has_15 : decode cX2_has 15 = .ok (.ireturn, 1) := by decide +kernel
theorem dX2_add_0 : decode cX2_add 0 = .ok (.aload_n 0, 1) := by decide +kernel
theorem dX2_add_1 : decode cX2_add 1 = .ok (.getfield 9, 3) := by decide +kernel
theorem dX2_add_4 : decode cX2_add 4 = .ok (.iload_n 1, 1) := by decide +kernel
theorem dX2_add_5 : decode cX2_add 5 = .ok (.bipush 32, 2) := by decide +kernel
theorem dX2_add_7 : decode cX2_add 7 = .ok (.imul, 1) := by decide +kernel
theorem dX2_add_8 : decode cX2_add 8 = .ok (.iload_n 3, 1) := by decide +kernel
theorem dX2_add_9 : decode cX2_add 9 = .ok (.iadd, 1) := by decide +kernel
theorem dX2_add_10 : decode cX2_add 10 = .ok (.dup2, 1) := by decide +kernel
theorem dX2_add_11 : decode cX2_add 11 = .ok (.iaload, 1) := by decide +kernel
theorem dX2_add_12 : decode cX2_add 12 = .ok (.iconst 1, 1) := by decide +kernel
theorem dX2_add_13 : decode cX2_add 13 = .ok (.iload_n 2, 1) := by decide +kernel
theorem dX2_add_14 : decode cX2_add 14 = .ok (.ishl, 1) := by decide +kernel
theorem dX2_add_15 : decode cX2_add 15 = .ok (.ior, 1) := by decide +kernel
theorem dX2_add_16 : decode cX2_add 16 = .ok (.iastore, 1) := by decide +kernel
theorem dX2_add_17 : decode cX2_add 17 = .ok (.aload_n 0, 1) := by decide +kernel
theorem dX2_add_18 : decode cX2_add 18 = .ok (.dup, 1) := by decide +kernel
theorem dX2_add_19 : decode cX2_add 19 = .ok (.getfield 15, 3) := by decide +kernel
theorem dX2_add_22 : decode cX2_add 22 = .ok (.iconst 1, 1) := by decide +kernel
theorem dX2_add_23 : decode cX2_add 23 = .ok (.iload_n 1, 1) := by decide +kernel
theorem dX2_add_24 : decode cX2_add 24 = .ok (.ishl, 1) := by decide +kernel
theorem dX2_add_25 : decode cX2_add 25 = .ok (.iconst 1, 1) := by decide +kernel
theorem dX2_add_26 : decode cX2_add 26 = .ok (.iload_n 3, 1) := by decide +kernel
theorem dX2_add_27 : decode cX2_add 27 = .ok (.ishl, 1) := by decide +kernel
theorem dX2_add_28 : decode cX2_add 28 = .ok (.ior, 1) := by decide +kernel
theorem dX2_add_29 : decode cX2_add 29 = .ok (.ior, 1) := by decide +kernel
theorem dX2_add_30 : decode cX2_add 30 = .ok (.putfield 15, 3) := by decide +kernel
theorem dX2_add_33 : decode cX2_add 33 = .ok (.aload_n 0, 1) := by decide +kernel
theorem dX2_add_34 : decode cX2_add 34 = .ok (.dup, 1) := by decide +kernel
theorem dX2_add_35 : decode cX2_add 35 = .ok (.getfield 19, 3) := by decide +kernel
theorem dX2_add_38 : decode cX2_add 38 = .ok (.iconst 1, 1) := by decide +kernel
theorem dX2_add_39 : decode cX2_add 39 = .ok (.iadd, 1) := by decide +kernel
theorem dX2_add_40 : decode cX2_add 40 = .ok (.putfield 19, 3) := by decide +kernel
theorem dX2_add_43 : decode cX2_add 43 = .ok (.return_, 1) := by decide +kernel
theorem dX2_countFrom_0 : decode cX2_countFrom 0 = .ok (.iconst 0, 1) := by decide +kernel
theorem dX2_countFrom_1 : decode cX2_countFrom 1 = .ok (.istore_n 2, 1) := by decide +kernel
theorem dX2_countFrom_2 : decode cX2_countFrom 2 = .ok (.iconst 0, 1) := by decide +kernel
theorem dX2_countFrom_3 : decode cX2_countFrom 3 = .ok (.istore_n 3, 1) := by decide +kernel
theorem dX2_countFrom_4 : decode cX2_countFrom 4 = .ok (.iload_n 3, 1) := by decide +kernel
theorem dX2_countFrom_5 : decode cX2_countFrom 5 = .ok (.bipush 32, 2) := by decide +kernel
theorem dX2_countFrom_7 : decode cX2_countFrom 7 = .ok (.if_icmp .ge 26, 3) := by decide +kernel
theorem dX2_countFrom_10 : decode cX2_countFrom 10 = .ok (.iload_n 2, 1) := by decide +kernel
theorem dX2_countFrom_11 : decode cX2_countFrom 11 = .ok (.aload_n 0, 1) := by decide +kernel
theorem dX2_countFrom_12 : decode cX2_countFrom 12 = .ok (.getfield 9, 3) := by decide +kernel
theorem dX2_countFrom_15 : decode cX2_countFrom 15 = .ok (.iload_n 1, 1) := by decide +kernel
theorem dX2_countFrom_16 : decode cX2_countFrom 16 = .ok (.bipush 32, 2) := by decide +kernel
theorem dX2_countFrom_18 : decode cX2_countFrom 18 = .ok (.imul, 1) := by decide +kernel
theorem dX2_countFrom_19 : decode cX2_countFrom 19 = .ok (.iload_n 3, 1) := by decide +kernel
theorem dX2_countFrom_20 : decode cX2_countFrom 20 = .ok (.iadd, 1) := by decide +kernel
theorem dX2_countFrom_21 : decode cX2_countFrom 21 = .ok (.iaload, 1) := by decide +kernel
theorem dX2_countFrom_22 : decode cX2_countFrom 22 = .ok (.invokestatic 26, 3) := by decide +kernel
theorem dX2_countFrom_25 : decode cX2_countFrom 25 = .ok (.iadd, 1) := by decide +kernel
theorem dX2_countFrom_26 : decode cX2_countFrom 26 = .ok (.istore_n 2, 1) := by decide +kernel
theorem dX2_countFrom_27 : decode cX2_countFrom 27 = .ok (.iinc 3 1, 3) := by decide +kernel
theorem dX2_countFrom_30 : decode cX2_countFrom 30 = .ok (.goto (-26), 3) := by decide +kernel
theorem dX2_countFrom_33 : decode cX2_countFrom 33 = .ok (.iload_n 2, 1) := by decide +kernel
theorem dX2_countFrom_34 : decode cX2_countFrom 34 = .ok (.ireturn, 1) := by decide +kernel
theorem dX3_init_0 : decode cX3_init 0 = .ok (.aload_n 0, 1) := by decide +kernel
theorem dX3_init_1 : decode cX3_init 1 = .ok (.invokespecial 3, 3) := by decide +kernel
theorem dX3_init_4 : decode cX3_init 4 = .ok (.aload_n 0, 1) := by decide +kernel
theorem dX3_init_5 : decode cX3_init 5 = .ok (.new 9, 3) := by decide +kernel
theorem dX3_init_8 : decode cX3_init 8 = .ok (.dup, 1) := by decide +kernel
theorem dX3_init_9 : decode cX3_init 9 = .ok (.invokespecial 11, 3) := by decide +kernel
theorem dX3_init_12 : decode cX3_init 12 = .ok (.putfield 12, 3) := by decide +kernel
theorem dX3_init_15 : decode cX3_init 15 = .ok (.aload_n 0, 1) := by decide +kernel
theorem dX3_init_16 : decode cX3_init 16 = .ok (.bipush 41, 2) := by decide +kernel
theorem dX3_init_18 : decode cX3_init 18 = .ok (.anewarray 16, 3) := by decide +kernel
theorem dX3_init_21 : decode cX3_init 21 = .ok (.putfield 18, 3) := by decide +kernel
theorem dX3_init_24 : decode cX3_init 24 = .ok (.aload_n 0, 1) := by decide +kernel
theorem dX3_init_25 : decode cX3_init 25 = .ok (.new 22, 3) := by decide +kernel
theorem dX3_init_28 : decode cX3_init 28 = .ok (.dup, 1) := by decide +kernel
theorem dX3_init_29 : decode cX3_init 29 = .ok (.invokespecial 24, 3) := by decide +kernel
theorem dX3_init_32 : decode cX3_init 32 = .ok (.putfield 25, 3) := by decide +kernel
theorem dX3_init_35 : decode cX3_init 35 = .ok (.aload_n 0, 1) := by decide +kernel
theorem dX3_init_36 : decode cX3_init 36 = .ok (.bipush 32, 2) := by decide +kernel
theorem dX3_init_38 : decode cX3_init 38 = .ok (.newarray .int, 2) := by decide +kernel
theorem dX3_init_40 : decode cX3_init 40 = .ok (.putfield 29, 3) := by decide +kernel
theorem dX3_init_43 : decode cX3_init 43 = .ok (.aload_n 0, 1) := by decide +kernel
theorem dX3_init_44 : decode cX3_init 44 = .ok (.iconst 0, 1) := by decide +kernel
theorem dX3_init_45 : decode cX3_init 45 = .ok (.putfield 33, 3) := by decide +kernel
theorem dX3_init_48 : decode cX3_init 48 = .ok (.aload_n 0, 1) := by decide +kernel
theorem dX3_init_49 : decode cX3_init 49 = .ok (.sipush 1024, 3) := by decide +kernel
theorem dX3_init_52 : decode cX3_init 52 = .ok (.putfield 37, 3) := by decide +kernel
theorem dX3_init_55 : decode cX3_init 55 = .ok (.return_, 1) := by decide +kernel
theorem dX3_triple_0 : decode cX3_triple 0 = .ok (.iload_n 1, 1) := by decide +kernel
theorem dX3_triple_1 : decode cX3_triple 1 = .ok (.invokestatic 40, 3) := by decide +kernel
theorem dX3_triple_4 : decode cX3_triple 4 = .ok (.ifCond .eq 17, 3) := by decide +kernel
theorem dX3_triple_7 : decode cX3_triple 7 = .ok (.iload_n 2, 1) := by decide +kernel
theorem dX3_triple_8 : decode cX3_triple 8 = .ok (.invokestatic 44, 3) := by decide +kernel
theorem dX3_triple_11 : decode cX3_triple 11 = .ok (.ifCond .eq 10, 3) := by decide +kernel
theorem dX3_triple_14 : decode cX3_triple 14 = .ok (.iload_n 3, 1) := by decide +kernel
theorem dX3_triple_15 : decode cX3_triple 15 = .ok (.invokestatic 40, 3) := by decide +kernel
theorem dX3_triple_18 : decode cX3_triple 18 = .ok (.ifCond .ne 6, 3) := by decide +kernel
theorem dX3_triple_21 : decode cX3_triple 21 = .ok (.bipush (-2), 2) := by decide +kernel
theorem dX3_triple_23 : decode cX3_triple 23 = .ok (.ireturn, 1) := by decide +kernel
theorem dX3_triple_24 : decode cX3_triple 24 = .ok (.aload_n 0, 1) := by decide +kernel
theorem dX3_triple_25 : decode cX3_triple 25 = .ok (.getfield 12, 3) := by decide +kernel
theorem dX3_triple_28 : decode cX3_triple 28 = .ok (.iload_n 1, 1) := by decide +kernel
theorem dX3_triple_29 : decode cX3_triple 29 = .ok (.iload_n 2, 1) := by decide +kernel
theorem dX3_triple_30 : decode cX3_triple 30 = .ok (.iload_n 3, 1) := by decide +kernel
theorem dX3_triple_31 : decode cX3_triple 31 = .ok (.invokevirtual 47, 3) := by decide +kernel
theorem dX3_triple_34 : decode cX3_triple 34 = .ok (.ifCond .ne 29, 3) := by decide +kernel
theorem dX3_triple_37 : decode cX3_triple 37 = .ok (.aload_n 0, 1) := by decide +kernel
theorem dX3_triple_38 : decode cX3_triple 38 = .ok (.getfield 12, 3) := by decide +kernel
theorem dX3_triple_41 : decode cX3_triple 41 = .ok (.getfield 51, 3) := by decide +kernel
theorem dX3_triple_44 : decode cX3_triple 44 = .ok (.sipush 150, 3) := by decide +kernel
theorem dX3_triple_47 : decode cX3_triple 47 = .ok (.if_icmp .lt 6, 3) := by decide +kernel
theorem dX3_triple_50 : decode cX3_triple 50 = .ok (.bipush (-4), 2) := by decide +kernel
theorem dX3_triple_52 : decode cX3_triple 52 = .ok (.ireturn, 1) := by decide +kernel
theorem dX3_triple_53 : decode cX3_triple 53 = .ok (.aload_n 0, 1) := by decide +kernel
theorem dX3_triple_54 : decode cX3_triple 54 = .ok (.getfield 12, 3) := by decide +kernel
theorem dX3_triple_57 : decode cX3_triple 57 = .ok (.iload_n 1, 1) := by decide +kernel
theorem dX3_triple_58 : decode cX3_triple 58 = .ok (.iload_n 2, 1) := by decide +kernel
theorem dX3_triple_59 : decode cX3_triple 59 = .ok (.iload_n 3, 1) := by decide +kernel
theorem dX3_triple_60 : decode cX3_triple 60 = .ok (.invokevirtual 54, 3) := by decide +kernel
theorem dX3_triple_63 : decode cX3_triple 63 = .ok (.aload_n 0, 1) := by decide +kernel
theorem dX3_triple_64 : decode cX3_triple 64 = .ok (.getfield 12, 3) := by decide +kernel
theorem dX3_triple_67 : decode cX3_triple 67 = .ok (.getfield 51, 3) := by decide +kernel
theorem dX3_triple_70 : decode cX3_triple 70 = .ok (.ireturn, 1) := by decide +kernel
theorem dX3_path_0 : decode cX3_path 0 = .ok (.iload_n 1, 1) := by decide +kernel
theorem dX3_path_1 : decode cX3_path 1 = .ok (.tableswitch 93 0 6 #[43, 82, 66, 66, 82, 82, 82], 43) := by decide +kernel
theorem dX3_path_44 : decode cX3_path 44 = .ok (.iload_n 2, 1) := by decide +kernel
theorem dX3_path_45 : decode cX3_path 45 = .ok (.invokestatic 44, 3) := by decide +kernel
theorem dX3_path_48 : decode cX3_path 48 = .ok (.ifCond .eq 16, 3) := by decide +kernel
theorem dX3_path_51 : decode cX3_path 51 = .ok (.aload_n 0, 1) := by decide +kernel
theorem dX3_path_52 : decode cX3_path 52 = .ok (.iconst 0, 1) := by decide +kernel
theorem dX3_path_53 : decode cX3_path 53 = .ok (.iconst 1, 1) := by decide +kernel
theorem dX3_path_54 : decode cX3_path 54 = .ok (.iload_n 2, 1) := by decide +kernel
theorem dX3_path_55 : decode cX3_path 55 = .ok (.ishl, 1) := by decide +kernel
theorem dX3_path_56 : decode cX3_path 56 = .ok (.aconst_null, 1) := by decide +kernel
theorem dX3_path_57 : decode cX3_path 57 = .ok (.aconst_null, 1) := by decide +kernel
theorem dX3_path_58 : decode cX3_path 58 = .ok (.invokevirtual 58, 3) := by decide +kernel
theorem dX3_path_61 : decode cX3_path 61 = .ok (.goto 5, 3) := by decide +kernel
theorem dX3_path_64 : decode cX3_path 64 = .ok (.bipush (-2), 2) := by decide +kernel
theorem dX3_path_66 : decode cX3_path 66 = .ok (.ireturn, 1) := by decide +kernel
theorem dX3_path_67 : decode cX3_path 67 = .ok (.aload_n 0, 1) := by decide +kernel
theorem dX3_path_68 : decode cX3_path 68 = .ok (.iload_n 1, 1) := by decide +kernel
theorem dX3_path_69 : decode cX3_path 69 = .ok (.aload_n 0, 1) := by decide +kernel
theorem dX3_path_70 : decode cX3_path 70 = .ok (.iload_n 2, 1) := by decide +kernel
theorem dX3_path_71 : decode cX3_path 71 = .ok (.invokevirtual 62, 3) := by decide +kernel
theorem dX3_path_74 : decode cX3_path 74 = .ok (.aload_n 0, 1) := by decide +kernel
theorem dX3_path_75 : decode cX3_path 75 = .ok (.iload_n 3, 1) := by decide +kernel
theorem dX3_path_76 : decode cX3_path 76 = .ok (.invokevirtual 62, 3) := by decide +kernel
theorem dX3_path_79 : decode cX3_path 79 = .ok (.invokevirtual 66, 3) := by decide +kernel
theorem dX3_path_82 : decode cX3_path 82 = .ok (.ireturn, 1) := by decide +kernel
theorem dX3_path_83 : decode cX3_path 83 = .ok (.aload_n 0, 1) := by decide +kernel
theorem dX3_path_84 : decode cX3_path 84 = .ok (.iload_n 1, 1) := by decide +kernel
theorem dX3_path_85 : decode cX3_path 85 = .ok (.aload_n 0, 1) := by decide +kernel
theorem dX3_path_86 : decode cX3_path 86 = .ok (.iload_n 2, 1) := by decide +kernel
theorem dX3_path_87 : decode cX3_path 87 = .ok (.invokevirtual 62, 3) := by decide +kernel
theorem dX3_path_90 : decode cX3_path 90 = .ok (.invokevirtual 70, 3) := by decide +kernel
theorem dX3_path_93 : decode cX3_path 93 = .ok (.ireturn, 1) := by decide +kernel
theorem dX3_path_94 : decode cX3_path 94 = .ok (.bipush (-2), 2) := by decide +kernel
theorem dX3_path_96 : decode cX3_path 96 = .ok (.ireturn, 1) := by decide +kernel
theorem dX3_from_0 : decode cX3_from 0 = .ok (.iload_n 1, 1) := by decide +kernel
theorem dX3_from_1 : decode cX3_from 1 = .ok (.invokestatic 40, 3) := by decide +kernel
theorem dX3_from_4 : decode cX3_from 4 = .ok (.ifCond .eq 14, 3) := by decide +kernel
theorem dX3_from_7 : decode cX3_from 7 = .ok (.aload_n 0, 1) := by decide +kernel
theorem dX3_from_8 : decode cX3_from 8 = .ok (.getfield 12, 3) := by decide +kernel
theorem dX3_from_11 : decode cX3_from 11 = .ok (.iload_n 1, 1) := by decide +kernel
theorem dX3_from_12 : decode cX3_from 12 = .ok (.invokevirtual 74, 3) := by decide +kernel
theorem dX3_from_15 : decode cX3_from 15 = .ok (.goto 5, 3) := by decide +kernel
theorem dX3_from_18 : decode cX3_from 18 = .ok (.bipush (-2), 2) := by decide +kernel
theorem dX3_from_20 : decode cX3_from 20 = .ok (.ireturn, 1) := by decide +kernel
theorem dX3_run_0 : decode cX3_run 0 = .ok (.aload_n 0, 1) := by decide +kernel
theorem dX3_run_1 : decode cX3_run 1 = .ok (.iload_n 1, 1) := by decide +kernel
theorem dX3_run_2 : decode cX3_run 2 = .ok (.invokevirtual 62, 3) := by decide +kernel
theorem dX3_run_5 : decode cX3_run 5 = .ok (.astore 4, 2) := by decide +kernel
theorem dX3_run_7 : decode cX3_run 7 = .ok (.aload 4, 2) := by decide +kernel
theorem dX3_run_9 : decode cX3_run 9 = .ok (.ifnonnull 5, 3) := by decide +kernel
theorem dX3_run_12 : decode cX3_run 12 = .ok (.iconst (-1), 1) := by decide +kernel
theorem dX3_run_13 : decode cX3_run 13 = .ok (.ireturn, 1) := by decide +kernel
theorem dX3_run_14 : decode cX3_run 14 = .ok (.iload_n 2, 1) := by decide +kernel
theorem dX3_run_15 : decode cX3_run 15 = .ok (.invokestatic 78, 3) := by decide +kernel
theorem dX3_run_18 : decode cX3_run 18 = .ok (.ifCond .eq 10, 3) := by decide +kernel
theorem dX3_run_21 : decode cX3_run 21 = .ok (.iload_n 3, 1) := by decide +kernel
theorem dX3_run_22 : decode cX3_run 22 = .ok (.invokestatic 78, 3) := by decide +kernel
theorem dX3_run_25 : decode cX3_run 25 = .ok (.ifCond .ne 6, 3) := by decide +kernel
theorem dX3_run_28 : decode cX3_run 28 = .ok (.bipush (-2), 2) := by decide +kernel
theorem dX3_run_30 : decode cX3_run 30 = .ok (.ireturn, 1) := by decide +kernel
theorem dX3_run_31 : decode cX3_run 31 = .ok (.aload_n 0, 1) := by decide +kernel
theorem dX3_run_32 : decode cX3_run 32 = .ok (.aload 4, 2) := by decide +kernel
theorem dX3_run_34 : decode cX3_run 34 = .ok (.iload_n 2, 1) := by decide +kernel
theorem dX3_run_35 : decode cX3_run 35 = .ok (.iload_n 3, 1) := by decide +kernel
theorem dX3_run_36 : decode cX3_run 36 = .ok (.invokevirtual 81, 3) := by decide +kernel
theorem dX3_run_39 : decode cX3_run 39 = .ok (.aload_n 0, 1) := by decide +kernel
theorem dX3_run_40 : decode cX3_run 40 = .ok (.aload 4, 2) := by decide +kernel
theorem dX3_run_42 : decode cX3_run 42 = .ok (.invokevirtual 85, 3) := by decide +kernel
theorem dX3_run_45 : decode cX3_run 45 = .ok (.ifCond .eq 6, 3) := by decide +kernel
theorem dX3_run_48 : decode cX3_run 48 = .ok (.bipush (-5), 2) := by decide +kernel
theorem dX3_run_50 : decode cX3_run 50 = .ok (.ireturn, 1) := by decide +kernel
theorem dX3_run_51 : decode cX3_run 51 = .ok (.aload 4, 2) := by decide +kernel
theorem dX3_run_53 : decode cX3_run 53 = .ok (.iload_n 2, 1) := by decide +kernel
theorem dX3_run_54 : decode cX3_run 54 = .ok (.iload_n 3, 1) := by decide +kernel
theorem dX3_run_55 : decode cX3_run 55 = .ok (.invokevirtual 89, 3) := by decide +kernel
theorem dX3_run_58 : decode cX3_run 58 = .ok (.istore 5, 2) := by decide +kernel
theorem dX3_run_60 : decode cX3_run 60 = .ok (.iload 5, 2) := by decide +kernel
theorem dX3_run_62 : decode cX3_run 62 = .ok (.sipush 2000, 3) := by decide +kernel
theorem dX3_run_65 : decode cX3_run 65 = .ok (.if_icmp .le 6, 3) := by decide +kernel
theorem dX3_run_68 : decode cX3_run 68 = .ok (.bipush (-4), 2) := by decide +kernel
theorem dX3_run_70 : decode cX3_run 70 = .ok (.ireturn, 1) := by decide +kernel
theorem dX3_run_71 : decode cX3_run 71 = .ok (.aload_n 0, 1) := by decide +kernel
theorem dX3_run_72 : decode cX3_run 72 = .ok (.aload 4, 2) := by decide +kernel
theorem dX3_run_74 : decode cX3_run 74 = .ok (.iload_n 2, 1) := by decide +kernel
theorem dX3_run_75 : decode cX3_run 75 = .ok (.iload_n 3, 1) := by decide +kernel
theorem dX3_run_76 : decode cX3_run 76 = .ok (.invokevirtual 93, 3) := by decide +kernel
theorem dX3_run_79 : decode cX3_run 79 = .ok (.iload 5, 2) := by decide +kernel
theorem dX3_run_81 : decode cX3_run 81 = .ok (.ireturn, 1) := by decide +kernel
theorem dX3_at_0 : decode cX3_at 0 = .ok (.iload_n 2, 1) := by decide +kernel
theorem dX3_at_1 : decode cX3_at 1 = .ok (.ifCond .eq 11, 3) := by decide +kernel
theorem dX3_at_4 : decode cX3_at 4 = .ok (.iload_n 2, 1) := by decide +kernel
theorem dX3_at_5 : decode cX3_at 5 = .ok (.iconst 1, 1) := by decide +kernel
theorem dX3_at_6 : decode cX3_at 6 = .ok (.if_icmp .eq 6, 3) := by decide +kernel
theorem dX3_at_9 : decode cX3_at 9 = .ok (.bipush (-2), 2) := by decide +kernel
theorem dX3_at_11 : decode cX3_at 11 = .ok (.ireturn, 1) := by decide +kernel
theorem dX3_at_12 : decode cX3_at 12 = .ok (.aload_n 0, 1) := by decide +kernel
theorem dX3_at_13 : decode cX3_at 13 = .ok (.getfield 25, 3) := by decide +kernel
theorem dX3_at_16 : decode cX3_at 16 = .ok (.getfield 96, 3) := by decide +kernel
theorem dX3_at_19 : decode cX3_at 19 = .ok (.ifCond .ne 6, 3) := by decide +kernel
theorem dX3_at_22 : decode cX3_at 22 = .ok (.bipush (-3), 2) := by decide +kernel
theorem dX3_at_24 : decode cX3_at 24 = .ok (.ireturn, 1) := by decide +kernel
theorem dX3_at_25 : decode cX3_at 25 = .ok (.aload_n 0, 1) := by decide +kernel
theorem dX3_at_26 : decode cX3_at 26 = .ok (.getfield 25, 3) := by decide +kernel
theorem dX3_at_29 : decode cX3_at 29 = .ok (.iload_n 1, 1) := by decide +kernel
theorem dX3_at_30 : decode cX3_at 30 = .ok (.invokevirtual 100, 3) := by decide +kernel
theorem dX3_at_33 : decode cX3_at 33 = .ok (.ifCond .ne 5, 3) := by decide +kernel
theorem dX3_at_36 : decode cX3_at 36 = .ok (.iconst (-1), 1) := by decide +kernel
theorem dX3_at_37 : decode cX3_at 37 = .ok (.ireturn, 1) := by decide +kernel
theorem dX3_at_38 : decode cX3_at 38 = .ok (.iload_n 2, 1) := by decide +kernel
theorem dX3_at_39 : decode cX3_at 39 = .ok (.ifCond .ne 15, 3) := by decide +kernel
theorem dX3_at_42 : decode cX3_at 42 = .ok (.aload_n 0, 1) := by decide +kernel
theorem dX3_at_43 : decode cX3_at 43 = .ok (.getfield 25, 3) := by decide +kernel
theorem dX3_at_46 : decode cX3_at 46 = .ok (.getfield 102, 3) := by decide +kernel
theorem dX3_at_49 : decode cX3_at 49 = .ok (.iload_n 1, 1) := by decide +kernel
theorem dX3_at_50 : decode cX3_at 50 = .ok (.iaload, 1) := by decide +kernel
theorem dX3_at_51 : decode cX3_at 51 = .ok (.goto 12, 3) := by decide +kernel
theorem dX3_at_54 : decode cX3_at 54 = .ok (.aload_n 0, 1) := by decide +kernel
theorem dX3_at_55 : decode cX3_at 55 = .ok (.getfield 25, 3) := by decide +kernel
theorem dX3_at_58 : decode cX3_at 58 = .ok (.getfield 105, 3) := by decide +kernel
theorem dX3_at_61 : decode cX3_at 61 = .ok (.iload_n 1, 1) := by decide +kernel
theorem dX3_at_62 : decode cX3_at 62 = .ok (.iaload, 1) := by decide +kernel
theorem dX3_at_63 : decode cX3_at 63 = .ok (.ireturn, 1) := by decide +kernel
theorem dX3_plain_0 : decode cX3_plain 0 = .ok (.aload_n 0, 1) := by decide +kernel
theorem dX3_plain_1 : decode cX3_plain 1 = .ok (.iload_n 1, 1) := by decide +kernel
theorem dX3_plain_2 : decode cX3_plain 2 = .ok (.invokevirtual 62, 3) := by decide +kernel
theorem dX3_plain_5 : decode cX3_plain 5 = .ok (.astore 4, 2) := by decide +kernel
theorem dX3_plain_7 : decode cX3_plain 7 = .ok (.aload 4, 2) := by decide +kernel
theorem dX3_plain_9 : decode cX3_plain 9 = .ok (.ifnonnull 5, 3) := by decide +kernel
theorem dX3_plain_12 : decode cX3_plain 12 = .ok (.iconst (-1), 1) := by decide +kernel
theorem dX3_plain_13 : decode cX3_plain 13 = .ok (.ireturn, 1) := by decide +kernel
theorem dX3_plain_14 : decode cX3_plain 14 = .ok (.iload_n 2, 1) := by decide +kernel
theorem dX3_plain_15 : decode cX3_plain 15 = .ok (.invokestatic 78, 3) := by decide +kernel
theorem dX3_plain_18 : decode cX3_plain 18 = .ok (.ifCond .eq 10, 3) := by decide +kernel
theorem dX3_plain_21 : decode cX3_plain 21 = .ok (.iload_n 3, 1) := by decide +kernel
theorem dX3_plain_22 : decode cX3_plain 22 = .ok (.invokestatic 78, 3) := by decide +kernel
theorem dX3_plain_25 : decode cX3_plain 25 = .ok (.ifCond .ne 6, 3) := by decide +kernel
theorem dX3_plain_28 : decode cX3_plain 28 = .ok (.bipush (-2), 2) := by decide +kernel
theorem dX3_plain_30 : decode cX3_plain 30 = .ok (.ireturn, 1) := by decide +kernel
theorem dX3_plain_31 : decode cX3_plain 31 = .ok (.aload_n 0, 1) := by decide +kernel
theorem dX3_plain_32 : decode cX3_plain 32 = .ok (.aload 4, 2) := by decide +kernel
theorem dX3_plain_34 : decode cX3_plain 34 = .ok (.iload_n 2, 1) := by decide +kernel
theorem dX3_plain_35 : decode cX3_plain 35 = .ok (.iload_n 3, 1) := by decide +kernel
theorem dX3_plain_36 : decode cX3_plain 36 = .ok (.invokevirtual 81, 3) := by decide +kernel
theorem dX3_plain_39 : decode cX3_plain 39 = .ok (.aload 4, 2) := by decide +kernel
theorem dX3_plain_41 : decode cX3_plain 41 = .ok (.iload_n 2, 1) := by decide +kernel
theorem dX3_plain_42 : decode cX3_plain 42 = .ok (.iload_n 3, 1) := by decide +kernel
theorem dX3_plain_43 : decode cX3_plain 43 = .ok (.invokevirtual 89, 3) := by decide +kernel
theorem dX3_plain_46 : decode cX3_plain 46 = .ok (.ireturn, 1) := by decide +kernel
theorem dX3_steps_0 : decode cX3_steps 0 = .ok (.iload_n 1, 1) := by decide +kernel
theorem dX3_steps_1 : decode cX3_steps 1 = .ok (.iconst 1, 1) := by decide +kernel
theorem dX3_steps_2 : decode cX3_steps 2 = .ok (.if_icmp .lt 10, 3) := by decide +kernel
theorem dX3_steps_5 : decode cX3_steps 5 = .ok (.iload_n 1, 1) := by decide +kernel
theorem dX3_steps_6 : decode cX3_steps 6 = .ok (.sipush 1024, 3) := by decide +kernel
theorem dX3_steps_9 : decode cX3_steps 9 = .ok (.if_icmp .le 6, 3) := by decide +kernel
theorem dX3_steps_12 : decode cX3_steps 12 = .ok (.bipush (-2), 2) := by decide +kernel
theorem dX3_steps_14 : decode cX3_steps 14 = .ok (.ireturn, 1) := by decide +kernel
theorem dX3_steps_15 : decode cX3_steps 15 = .ok (.aload_n 0, 1) := by decide +kernel
theorem dX3_steps_16 : decode cX3_steps 16 = .ok (.iload_n 1, 1) := by decide +kernel
theorem dX3_steps_17 : decode cX3_steps 17 = .ok (.putfield 37, 3) := by decide +kernel
theorem dX3_steps_20 : decode cX3_steps 20 = .ok (.iconst 1, 1) := by decide +kernel
theorem dX3_steps_21 : decode cX3_steps 21 = .ok (.ireturn, 1) := by decide +kernel
theorem dX3_cycle_0 : decode cX3_cycle 0 = .ok (.aload_n 0, 1) := by decide +kernel
theorem dX3_cycle_1 : decode cX3_cycle 1 = .ok (.getfield 25, 3) := by decide +kernel
theorem dX3_cycle_4 : decode cX3_cycle 4 = .ok (.iload_n 1, 1) := by decide +kernel
theorem dX3_cycle_5 : decode cX3_cycle 5 = .ok (.invokevirtual 100, 3) := by decide +kernel
theorem dX3_cycle_8 : decode cX3_cycle 8 = .ok (.ifCond .eq 28, 3) := by decide +kernel
theorem dX3_cycle_11 : decode cX3_cycle 11 = .ok (.aload_n 0, 1) := by decide +kernel
theorem dX3_cycle_12 : decode cX3_cycle 12 = .ok (.getfield 25, 3) := by decide +kernel
theorem dX3_cycle_15 : decode cX3_cycle 15 = .ok (.getfield 102, 3) := by decide +kernel
theorem dX3_cycle_18 : decode cX3_cycle 18 = .ok (.iload_n 1, 1) := by decide +kernel
theorem dX3_cycle_19 : decode cX3_cycle 19 = .ok (.iaload, 1) := by decide +kernel
theorem dX3_cycle_20 : decode cX3_cycle 20 = .ok (.aload_n 0, 1) := by decide +kernel
theorem dX3_cycle_21 : decode cX3_cycle 21 = .ok (.getfield 25, 3) := by decide +kernel
theorem dX3_cycle_24 : decode cX3_cycle 24 = .ok (.getfield 105, 3) := by decide +kernel
theorem dX3_cycle_27 : decode cX3_cycle 27 = .ok (.iload_n 1, 1) := by decide +kernel
theorem dX3_cycle_28 : decode cX3_cycle 28 = .ok (.iaload, 1) := by decide +kernel
theorem dX3_cycle_29 : decode cX3_cycle 29 = .ok (.if_icmp .ne 7, 3) := by decide +kernel
theorem dX3_cycle_32 : decode cX3_cycle 32 = .ok (.iconst 1, 1) := by decide +kernel
theorem dX3_cycle_33 : decode cX3_cycle 33 = .ok (.goto 4, 3) := by decide +kernel
theorem dX3_cycle_36 : decode cX3_cycle 36 = .ok (.iconst 0, 1) := by decide +kernel
theorem dX3_cycle_37 : decode cX3_cycle 37 = .ok (.ireturn, 1) := by decide +kernel
theorem dX3_depth_0 : decode cX3_depth 0 = .ok (.aload_n 0, 1) := by decide +kernel
theorem dX3_depth_1 : decode cX3_depth 1 = .ok (.getfield 25, 3) := by decide +kernel
theorem dX3_depth_4 : decode cX3_depth 4 = .ok (.iload_n 1, 1) := by decide +kernel
theorem dX3_depth_5 : decode cX3_depth 5 = .ok (.invokevirtual 100, 3) := by decide +kernel
theorem dX3_depth_8 : decode cX3_depth 8 = .ok (.ifCond .ne 13, 3) := by decide +kernel
theorem dX3_depth_11 : decode cX3_depth 11 = .ok (.new 108, 3) := by decide +kernel
theorem dX3_depth_14 : decode cX3_depth 14 = .ok (.dup, 1) := by decide +kernel
theorem dX3_depth_15 : decode cX3_depth 15 = .ok (.ldc 110, 2) := by decide +kernel
theorem dX3_depth_17 : decode cX3_depth 17 = .ok (.invokespecial 112, 3) := by decide +kernel
theorem dX3_depth_20 : decode cX3_depth 20 = .ok (.athrow, 1) := by decide +kernel
theorem dX3_depth_21 : decode cX3_depth 21 = .ok (.aload_n 0, 1) := by decide +kernel
theorem dX3_depth_22 : decode cX3_depth 22 = .ok (.getfield 25, 3) := by decide +kernel
theorem dX3_depth_25 : decode cX3_depth 25 = .ok (.getfield 115, 3) := by decide +kernel
theorem dX3_depth_28 : decode cX3_depth 28 = .ok (.iload_n 1, 1) := by decide +kernel
theorem dX3_depth_29 : decode cX3_depth 29 = .ok (.iaload, 1) := by decide +kernel
theorem dX3_depth_30 : decode cX3_depth 30 = .ok (.ireturn, 1) := by decide +kernel
theorem dX3_inverse_0 : decode cX3_inverse 0 = .ok (.aload_n 0, 1) := by decide +kernel
theorem dX3_inverse_1 : decode cX3_inverse 1 = .ok (.iconst 1, 1) := by decide +kernel
theorem dX3_inverse_2 : decode cX3_inverse 2 = .ok (.aload_n 0, 1) := by decide +kernel
theorem dX3_inverse_3 : decode cX3_inverse 3 = .ok (.iload_n 1, 1) := by decide +kernel
theorem dX3_inverse_4 : decode cX3_inverse 4 = .ok (.invokevirtual 62, 3) := by decide +kernel
theorem dX3_inverse_7 : decode cX3_inverse 7 = .ok (.invokevirtual 70, 3) := by decide +kernel
theorem dX3_inverse_10 : decode cX3_inverse 10 = .ok (.ireturn, 1) := by decide +kernel
theorem dX3_negated_0 : decode cX3_negated 0 = .ok (.iload_n 1, 1) := by decide +kernel
theorem dX3_negated_1 : decode cX3_negated 1 = .ok (.invokestatic 44, 3) := by decide +kernel
theorem dX3_negated_4 : decode cX3_negated 4 = .ok (.ifCond .eq 15, 3) := by decide +kernel
theorem dX3_negated_7 : decode cX3_negated 7 = .ok (.iload_n 2, 1) := by decide +kernel
theorem dX3_negated_8 : decode cX3_negated 8 = .ok (.iconst (-1), 1) := by decide +kernel
theorem dX3_negated_9 : decode cX3_negated 9 = .ok (.if_icmp .eq 13, 3) := by decide +kernel
theorem dX3_negated_12 : decode cX3_negated 12 = .ok (.iload_n 2, 1) := by decide +kernel
theorem dX3_negated_13 : decode cX3_negated 13 = .ok (.invokestatic 44, 3) := by decide +kernel
theorem dX3_negated_16 : decode cX3_negated 16 = .ok (.ifCond .ne 6, 3) := by decide +kernel
theorem dX3_negated_19 : decode cX3_negated 19 = .ok (.bipush (-2), 2) := by decide +kernel
theorem dX3_negated_21 : decode cX3_negated 21 = .ok (.ireturn, 1) := by decide +kernel
theorem dX3_negated_22 : decode cX3_negated 22 = .ok (.iconst 1, 1) := by decide +kernel
theorem dX3_negated_23 : decode cX3_negated 23 = .ok (.iload_n 1, 1) := by decide +kernel
theorem dX3_negated_24 : decode cX3_negated 24 = .ok (.ishl, 1) := by decide +kernel
theorem dX3_negated_25 : decode cX3_negated 25 = .ok (.istore_n 3, 1) := by decide +kernel
theorem dX3_negated_26 : decode cX3_negated 26 = .ok (.iload_n 2, 1) := by decide +kernel
theorem dX3_negated_27 : decode cX3_negated 27 = .ok (.iconst (-1), 1) := by decide +kernel
theorem dX3_negated_28 : decode cX3_negated 28 = .ok (.if_icmp .eq 9, 3) := by decide +kernel
theorem dX3_negated_31 : decode cX3_negated 31 = .ok (.iload_n 3, 1) := by decide +kernel
theorem dX3_negated_32 : decode cX3_negated 32 = .ok (.iconst 1, 1) := by decide +kernel
theorem dX3_negated_33 : decode cX3_negated 33 = .ok (.iload_n 2, 1) := by decide +kernel
theorem dX3_negated_34 : decode cX3_negated 34 = .ok (.ishl, 1) := by decide +kernel
theorem dX3_negated_35 : decode cX3_negated 35 = .ok (.ior, 1) := by decide +kernel
theorem dX3_negated_36 : decode cX3_negated 36 = .ok (.istore_n 3, 1) := by decide +kernel
theorem dX3_negated_37 : decode cX3_negated 37 = .ok (.aload_n 0, 1) := by decide +kernel
theorem dX3_negated_38 : decode cX3_negated 38 = .ok (.bipush 7, 2) := by decide +kernel
theorem dX3_negated_40 : decode cX3_negated 40 = .ok (.ldc 118, 2) := by decide +kernel
theorem dX3_negated_42 : decode cX3_negated 42 = .ok (.iload_n 3, 1) := by decide +kernel
theorem dX3_negated_43 : decode cX3_negated 43 = .ok (.iconst (-1), 1) := by decide +kernel
theorem dX3_negated_44 : decode cX3_negated 44 = .ok (.ixor, 1) := by decide +kernel
theorem dX3_negated_45 : decode cX3_negated 45 = .ok (.iand, 1) := by decide +kernel
theorem dX3_negated_46 : decode cX3_negated 46 = .ok (.aconst_null, 1) := by decide +kernel
theorem dX3_negated_47 : decode cX3_negated 47 = .ok (.aconst_null, 1) := by decide +kernel
theorem dX3_negated_48 : decode cX3_negated 48 = .ok (.invokevirtual 58, 3) := by decide +kernel
theorem dX3_negated_51 : decode cX3_negated 51 = .ok (.ireturn, 1) := by decide +kernel
theorem dX3_isNode_0 : decode cX3_isNode 0 = .ok (.iload_n 0, 1) := by decide +kernel
theorem dX3_isNode_1 : decode cX3_isNode 1 = .ok (.ifCond .lt 13, 3) := by decide +kernel
theorem dX3_isNode_4 : decode cX3_isNode 4 = .ok (.iload_n 0, 1) := by decide +kernel
theorem dX3_isNode_5 : decode cX3_isNode 5 = .ok (.bipush 32, 2) := by decide +kernel
theorem dX3_isNode_7 : decode cX3_isNode 7 = .ok (.if_icmp .ge 7, 3) := by decide +kernel
theorem dX3_isNode_10 : decode cX3_isNode 10 = .ok (.iconst 1, 1) := by decide +kernel
theorem dX3_isNode_11 : decode cX3_isNode 11 = .ok (.goto 4, 3) := by decide +kernel
theorem dX3_isNode_14 : decode cX3_isNode 14 = .ok (.iconst 0, 1) := by decide +kernel
theorem dX3_isNode_15 : decode cX3_isNode 15 = .ok (.ireturn, 1) := by decide +kernel
theorem dX3_isPredicate_0 : decode cX3_isPredicate 0 = .ok (.iload_n 0, 1) := by decide +kernel
theorem dX3_isPredicate_1 : decode cX3_isPredicate 1 = .ok (.ifCond .lt 13, 3) := by decide +kernel
theorem dX3_isPredicate_4 : decode cX3_isPredicate 4 = .ok (.iload_n 0, 1) := by decide +kernel
theorem dX3_isPredicate_5 : decode cX3_isPredicate 5 = .ok (.bipush 16, 2) := by decide +kernel
theorem dX3_isPredicate_7 : decode cX3_isPredicate 7 = .ok (.if_icmp .ge 7, 3) := by decide +kernel
theorem dX3_isPredicate_10 : decode cX3_isPredicate 10 = .ok (.iconst 1, 1) := by decide +kernel
theorem dX3_isPredicate_11 : decode cX3_isPredicate 11 = .ok (.goto 4, 3) := by decide +kernel
theorem dX3_isPredicate_14 : decode cX3_isPredicate 14 = .ok (.iconst 0, 1) := by decide +kernel
theorem dX3_isPredicate_15 : decode cX3_isPredicate 15 = .ok (.ireturn, 1) := by decide +kernel
theorem dX3_isEnd_0 : decode cX3_isEnd 0 = .ok (.iload_n 0, 1) := by decide +kernel
theorem dX3_isEnd_1 : decode cX3_isEnd 1 = .ok (.iconst (-1), 1) := by decide +kernel
theorem dX3_isEnd_2 : decode cX3_isEnd 2 = .ok (.if_icmp .eq 10, 3) := by decide +kernel
theorem dX3_isEnd_5 : decode cX3_isEnd 5 = .ok (.iload_n 0, 1) := by decide +kernel
theorem dX3_isEnd_6 : decode cX3_isEnd 6 = .ok (.invokestatic 40, 3) := by decide +kernel
theorem dX3_isEnd_9 : decode cX3_isEnd 9 = .ok (.ifCond .eq 7, 3) := by decide +kernel
theorem dX3_isEnd_12 : decode cX3_isEnd 12 = .ok (.iconst 1, 1) := by decide +kernel
theorem dX3_isEnd_13 : decode cX3_isEnd 13 = .ok (.goto 4, 3) := by decide +kernel
theorem dX3_isEnd_16 : decode cX3_isEnd 16 = .ok (.iconst 0, 1) := by decide +kernel
theorem dX3_isEnd_17 : decode cX3_isEnd 17 = .ok (.ireturn, 1) := by decide +kernel
theorem dX3_lowest_0 : decode cX3_lowest 0 = .ok (.iload_n 0, 1) := by decide +kernel
theorem dX3_lowest_1 : decode cX3_lowest 1 = .ok (.iconst (-1), 1) := by decide +kernel
theorem dX3_lowest_2 : decode cX3_lowest 2 = .ok (.if_icmp .ne 7, 3) := by decide +kernel
theorem dX3_lowest_5 : decode cX3_lowest 5 = .ok (.iconst 0, 1) := by decide +kernel
theorem dX3_lowest_6 : decode cX3_lowest 6 = .ok (.goto 4, 3) := by decide +kernel
theorem dX3_lowest_9 : decode cX3_lowest 9 = .ok (.iload_n 0, 1) := by decide +kernel
theorem dX3_lowest_10 : decode cX3_lowest 10 = .ok (.ireturn, 1) := by decide +kernel
theorem dX3_highest_0 : decode cX3_highest 0 = .ok (.iload_n 0, 1) := by decide +kernel
theorem dX3_highest_1 : decode cX3_highest 1 = .ok (.iconst (-1), 1) := by decide +kernel
theorem dX3_highest_2 : decode cX3_highest 2 = .ok (.if_icmp .ne 8, 3) := by decide +kernel
theorem dX3_highest_5 : decode cX3_highest 5 = .ok (.bipush 31, 2) := by decide +kernel
theorem dX3_highest_7 : decode cX3_highest 7 = .ok (.goto 4, 3) := by decide +kernel
theorem dX3_highest_10 : decode cX3_highest 10 = .ok (.iload_n 0, 1) := by decide +kernel
theorem dX3_highest_11 : decode cX3_highest 11 = .ok (.ireturn, 1) := by decide +kernel
theorem dX3_bitOf_0 : decode cX3_bitOf 0 = .ok (.iload_n 0, 1) := by decide +kernel
theorem dX3_bitOf_1 : decode cX3_bitOf 1 = .ok (.iconst (-1), 1) := by decide +kernel
theorem dX3_bitOf_2 : decode cX3_bitOf 2 = .ok (.if_icmp .ne 7, 3) := by decide +kernel
theorem dX3_bitOf_5 : decode cX3_bitOf 5 = .ok (.iconst 0, 1) := by decide +kernel
theorem dX3_bitOf_6 : decode cX3_bitOf 6 = .ok (.goto 6, 3) := by decide +kernel
theorem dX3_bitOf_9 : decode cX3_bitOf 9 = .ok (.iconst 1, 1) := by decide +kernel
theorem dX3_bitOf_10 : decode cX3_bitOf 10 = .ok (.iload_n 0, 1) := by decide +kernel
theorem dX3_bitOf_11 : decode cX3_bitOf 11 = .ok (.ishl, 1) := by decide +kernel
theorem dX3_bitOf_12 : decode cX3_bitOf 12 = .ok (.ireturn, 1) := by decide +kernel
theorem dX3_holds_0 : decode cX3_holds 0 = .ok (.iload_n 0, 1) := by decide +kernel
theorem dX3_holds_1 : decode cX3_holds 1 = .ok (.iload_n 1, 1) := by decide +kernel
theorem dX3_holds_2 : decode cX3_holds 2 = .ok (.iushr, 1) := by decide +kernel
theorem dX3_holds_3 : decode cX3_holds 3 = .ok (.iconst 1, 1) := by decide +kernel
theorem dX3_holds_4 : decode cX3_holds 4 = .ok (.iand, 1) := by decide +kernel
theorem dX3_holds_5 : decode cX3_holds 5 = .ok (.ifCond .eq 7, 3) := by decide +kernel
theorem dX3_holds_8 : decode cX3_holds 8 = .ok (.iconst 1, 1) := by decide +kernel
theorem dX3_holds_9 : decode cX3_holds 9 = .ok (.goto 4, 3) := by decide +kernel
theorem dX3_holds_12 : decode cX3_holds 12 = .ok (.iconst 0, 1) := by decide +kernel
theorem dX3_holds_13 : decode cX3_holds 13 = .ok (.ireturn, 1) := by decide +kernel
theorem dX3_known_0 : decode cX3_known 0 = .ok (.iload_n 1, 1) := by decide +kernel
theorem dX3_known_1 : decode cX3_known 1 = .ok (.iconst 1, 1) := by decide +kernel
theorem dX3_known_2 : decode cX3_known 2 = .ok (.if_icmp .lt 20, 3) := by decide +kernel
theorem dX3_known_5 : decode cX3_known 5 = .ok (.iload_n 1, 1) := by decide +kernel
theorem dX3_known_6 : decode cX3_known 6 = .ok (.aload_n 0, 1) := by decide +kernel
theorem dX3_known_7 : decode cX3_known 7 = .ok (.getfield 33, 3) := by decide +kernel
theorem dX3_known_10 : decode cX3_known 10 = .ok (.if_icmp .gt 12, 3) := by decide +kernel
theorem dX3_known_13 : decode cX3_known 13 = .ok (.aload_n 0, 1) := by decide +kernel
theorem dX3_known_14 : decode cX3_known 14 = .ok (.getfield 18, 3) := by decide +kernel
theorem dX3_known_17 : decode cX3_known 17 = .ok (.iload_n 1, 1) := by decide +kernel
theorem dX3_known_18 : decode cX3_known 18 = .ok (.aaload, 1) := by decide +kernel
theorem dX3_known_19 : decode cX3_known 19 = .ok (.goto 4, 3) := by decide +kernel
theorem dX3_known_22 : decode cX3_known 22 = .ok (.aconst_null, 1) := by decide +kernel
theorem dX3_known_23 : decode cX3_known 23 = .ok (.areturn, 1) := by decide +kernel
theorem dX3_keepOverOne_0 : decode cX3_keepOverOne 0 = .ok (.aload_n 2, 1) := by decide +kernel
theorem dX3_keepOverOne_1 : decode cX3_keepOverOne 1 = .ok (.ifnonnull 7, 3) := by decide +kernel
theorem dX3_keepOverOne_4 : decode cX3_keepOverOne 4 = .ok (.iconst (-1), 1) := by decide +kernel
theorem dX3_keepOverOne_5 : decode cX3_keepOverOne 5 = .ok (.goto 11, 3) := by decide +kernel
theorem dX3_keepOverOne_8 : decode cX3_keepOverOne 8 = .ok (.aload_n 0, 1) := by decide +kernel
theorem dX3_keepOverOne_9 : decode cX3_keepOverOne 9 = .ok (.iload_n 1, 1) := by decide +kernel
theorem dX3_keepOverOne_10 : decode cX3_keepOverOne 10 = .ok (.iconst 0, 1) := by decide +kernel
theorem dX3_keepOverOne_11 : decode cX3_keepOverOne 11 = .ok (.aload_n 2, 1) := by decide +kernel
theorem dX3_keepOverOne_12 : decode cX3_keepOverOne 12 = .ok (.aconst_null, 1) := by decide +kernel
theorem dX3_keepOverOne_13 : decode cX3_keepOverOne 13 = .ok (.invokevirtual 58, 3) := by decide +kernel
theorem dX3_keepOverOne_16 : decode cX3_keepOverOne 16 = .ok (.ireturn, 1) := by decide +kernel
theorem dX3_keepOverTwo_0 : decode cX3_keepOverTwo 0 = .ok (.aload_n 2, 1) := by decide +kernel
theorem dX3_keepOverTwo_1 : decode cX3_keepOverTwo 1 = .ok (.ifnull 7, 3) := by decide +kernel
theorem dX3_keepOverTwo_4 : decode cX3_keepOverTwo 4 = .ok (.aload_n 3, 1) := by decide +kernel
theorem dX3_keepOverTwo_5 : decode cX3_keepOverTwo 5 = .ok (.ifnonnull 7, 3) := by decide +kernel
theorem dX3_keepOverTwo_8 : decode cX3_keepOverTwo 8 = .ok (.iconst (-1), 1) := by decide +kernel
theorem dX3_keepOverTwo_9 : decode cX3_keepOverTwo 9 = .ok (.goto 11, 3) := by decide +kernel
theorem dX3_keepOverTwo_12 : decode cX3_keepOverTwo 12 = .ok (.aload_n 0, 1) := by decide +kernel
theorem dX3_keepOverTwo_13 : decode cX3_keepOverTwo 13 = .ok (.iload_n 1, 1) := by decide +kernel
theorem dX3_keepOverTwo_14 : decode cX3_keepOverTwo 14 = .ok (.iconst 0, 1) := by decide +kernel
theorem dX3_keepOverTwo_15 : decode cX3_keepOverTwo 15 = .ok (.aload_n 2, 1) := by decide +kernel
theorem dX3_keepOverTwo_16 : decode cX3_keepOverTwo 16 = .ok (.aload_n 3, 1) := by decide +kernel
theorem dX3_keepOverTwo_17 : decode cX3_keepOverTwo 17 = .ok (.invokevirtual 58, 3) := by decide +kernel
theorem dX3_keepOverTwo_20 : decode cX3_keepOverTwo 20 = .ok (.ireturn, 1) := by decide +kernel
theorem dX3_keepPath_0 : decode cX3_keepPath 0 = .ok (.aload_n 0, 1) := by decide +kernel
theorem dX3_keepPath_1 : decode cX3_keepPath 1 = .ok (.getfield 33, 3) := by decide +kernel
theorem dX3_keepPath_4 : decode cX3_keepPath 4 = .ok (.bipush 40, 2) := by decide +kernel
theorem dX3_keepPath_6 : decode cX3_keepPath 6 = .ok (.if_icmp .lt 6, 3) := by decide +kernel
theorem dX3_keepPath_9 : decode cX3_keepPath 9 = .ok (.bipush (-4), 2) := by decide +kernel
theorem dX3_keepPath_11 : decode cX3_keepPath 11 = .ok (.ireturn, 1) := by decide +kernel
theorem dX3_keepPath_12 : decode cX3_keepPath 12 = .ok (.aload_n 0, 1) := by decide +kernel
theorem dX3_keepPath_13 : decode cX3_keepPath 13 = .ok (.dup, 1) := by decide +kernel
theorem dX3_keepPath_14 : decode cX3_keepPath 14 = .ok (.getfield 33, 3) := by decide +kernel
theorem dX3_keepPath_17 : decode cX3_keepPath 17 = .ok (.iconst 1, 1) := by decide +kernel
theorem dX3_keepPath_18 : decode cX3_keepPath 18 = .ok (.iadd, 1) := by decide +kernel
theorem dX3_keepPath_19 : decode cX3_keepPath 19 = .ok (.putfield 33, 3) := by decide +kernel
theorem dX3_keepPath_22 : decode cX3_keepPath 22 = .ok (.aload_n 0, 1) := by decide +kernel
theorem dX3_keepPath_23 : decode cX3_keepPath 23 = .ok (.getfield 18, 3) := by decide +kernel
theorem dX3_keepPath_26 : decode cX3_keepPath 26 = .ok (.aload_n 0, 1) := by decide +kernel
theorem dX3_keepPath_27 : decode cX3_keepPath 27 = .ok (.getfield 33, 3) := by decide +kernel
theorem dX3_keepPath_30 : decode cX3_keepPath 30 = .ok (.new 16, 3) := by decide +kernel
theorem dX3_keepPath_33 : decode cX3_keepPath 33 = .ok (.dup, 1) := by decide +kernel
theorem dX3_keepPath_34 : decode cX3_keepPath 34 = .ok (.aload_n 0, 1) := by decide +kernel
theorem dX3_keepPath_35 : decode cX3_keepPath 35 = .ok (.getfield 33, 3) := by decide +kernel
theorem dX3_keepPath_38 : decode cX3_keepPath 38 = .ok (.iload_n 1, 1) := by decide +kernel
theorem dX3_keepPath_39 : decode cX3_keepPath 39 = .ok (.iload_n 2, 1) := by decide +kernel
theorem dX3_keepPath_40 : decode cX3_keepPath 40 = .ok (.aload_n 3, 1) := by decide +kernel
theorem dX3_keepPath_41 : decode cX3_keepPath 41 = .ok (.aload 4, 2) := by decide +kernel
theorem dX3_keepPath_43 : decode cX3_keepPath 43 = .ok (.invokespecial 119, 3) := by decide +kernel
theorem dX3_keepPath_46 : decode cX3_keepPath 46 = .ok (.aastore, 1) := by decide +kernel
theorem dX3_keepPath_47 : decode cX3_keepPath 47 = .ok (.aload_n 0, 1) := by decide +kernel
theorem dX3_keepPath_48 : decode cX3_keepPath 48 = .ok (.getfield 33, 3) := by decide +kernel
theorem dX3_keepPath_51 : decode cX3_keepPath 51 = .ok (.ireturn, 1) := by decide +kernel
theorem dX3_countParts_0 : decode cX3_countParts 0 = .ok (.aload_n 0, 1) := by decide +kernel
theorem dX3_countParts_1 : decode cX3_countParts 1 = .ok (.getfield 12, 3) := by decide +kernel
theorem dX3_countParts_4 : decode cX3_countParts 4 = .ok (.getfield 122, 3) := by decide +kernel
theorem dX3_countParts_7 : decode cX3_countParts 7 = .ok (.iload_n 2, 1) := by decide +kernel
theorem dX3_countParts_8 : decode cX3_countParts 8 = .ok (.invokestatic 125, 3) := by decide +kernel
theorem dX3_countParts_11 : decode cX3_countParts 11 = .ok (.ior, 1) := by decide +kernel
theorem dX3_countParts_12 : decode cX3_countParts 12 = .ok (.iload_n 3, 1) := by decide +kernel
theorem dX3_countParts_13 : decode cX3_countParts 13 = .ok (.invokestatic 125, 3) := by decide +kernel
theorem dX3_countParts_16 : decode cX3_countParts 16 = .ok (.ior, 1) := by decide +kernel
theorem dX3_countParts_17 : decode cX3_countParts 17 = .ok (.istore 4, 2) := by decide +kernel
theorem dX3_countParts_19 : decode cX3_countParts 19 = .ok (.iconst 1, 1) := by decide +kernel
theorem dX3_countParts_20 : decode cX3_countParts 20 = .ok (.istore 5, 2) := by decide +kernel
theorem dX3_countParts_22 : decode cX3_countParts 22 = .ok (.iload 5, 2) := by decide +kernel
theorem dX3_countParts_24 : decode cX3_countParts 24 = .ok (.aload_n 1, 1) := by decide +kernel
theorem dX3_countParts_25 : decode cX3_countParts 25 = .ok (.getfield 128, 3) := by decide +kernel
theorem dX3_countParts_28 : decode cX3_countParts 28 = .ok (.if_icmp .gt 42, 3) := by decide +kernel
theorem dX3_countParts_31 : decode cX3_countParts 31 = .ok (.aload_n 0, 1) := by decide +kernel
theorem dX3_countParts_32 : decode cX3_countParts 32 = .ok (.iload 5, 2) := by decide +kernel
theorem dX3_countParts_34 : decode cX3_countParts 34 = .ok (.invokevirtual 62, 3) := by decide +kernel
theorem dX3_countParts_37 : decode cX3_countParts 37 = .ok (.astore 6, 2) := by decide +kernel
theorem dX3_countParts_39 : decode cX3_countParts 39 = .ok (.aload 6, 2) := by decide +kernel
theorem dX3_countParts_41 : decode cX3_countParts 41 = .ok (.ifnull 23, 3) := by decide +kernel
theorem dX3_countParts_44 : decode cX3_countParts 44 = .ok (.aload_n 1, 1) := by decide +kernel
theorem dX3_countParts_45 : decode cX3_countParts 45 = .ok (.iload 5, 2) := by decide +kernel
theorem dX3_countParts_47 : decode cX3_countParts 47 = .ok (.invokevirtual 131, 3) := by decide +kernel
theorem dX3_countParts_50 : decode cX3_countParts 50 = .ok (.ifCond .eq 14, 3) := by decide +kernel
theorem dX3_countParts_53 : decode cX3_countParts 53 = .ok (.aload 6, 2) := by decide +kernel
theorem dX3_countParts_55 : decode cX3_countParts 55 = .ok (.aload_n 0, 1) := by decide +kernel
theorem dX3_countParts_56 : decode cX3_countParts 56 = .ok (.getfield 12, 3) := by decide +kernel
theorem dX3_countParts_59 : decode cX3_countParts 59 = .ok (.iload 4, 2) := by decide +kernel
theorem dX3_countParts_61 : decode cX3_countParts 61 = .ok (.invokevirtual 134, 3) := by decide +kernel
theorem dX3_countParts_64 : decode cX3_countParts 64 = .ok (.iinc 5 1, 3) := by decide +kernel
theorem dX3_countParts_67 : decode cX3_countParts 67 = .ok (.goto (-45), 3) := by decide +kernel
theorem dX3_countParts_70 : decode cX3_countParts 70 = .ok (.return_, 1) := by decide +kernel
theorem dX3_goesBeyond_0 : decode cX3_goesBeyond 0 = .ok (.iconst 1, 1) := by decide +kernel
theorem dX3_goesBeyond_1 : decode cX3_goesBeyond 1 = .ok (.istore_n 2, 1) := by decide +kernel
theorem dX3_goesBeyond_2 : decode cX3_goesBeyond 2 = .ok (.iload_n 2, 1) := by decide +kernel
theorem dX3_goesBeyond_3 : decode cX3_goesBeyond 3 = .ok (.aload_n 1, 1) := by decide +kernel
theorem dX3_goesBeyond_4 : decode cX3_goesBeyond 4 = .ok (.getfield 128, 3) := by decide +kernel
theorem dX3_goesBeyond_7 : decode cX3_goesBeyond 7 = .ok (.if_icmp .gt 47, 3) := by decide +kernel
theorem dX3_goesBeyond_10 : decode cX3_goesBeyond 10 = .ok (.aload_n 0, 1) := by decide +kernel
theorem dX3_goesBeyond_11 : decode cX3_goesBeyond 11 = .ok (.iload_n 2, 1) := by decide +kernel
theorem dX3_goesBeyond_12 : decode cX3_goesBeyond 12 = .ok (.invokevirtual 62, 3) := by decide +kernel
theorem dX3_goesBeyond_15 : decode cX3_goesBeyond 15 = .ok (.astore_n 3, 1) := by decide +kernel
theorem dX3_goesBeyond_16 : decode cX3_goesBeyond 16 = .ok (.aload_n 3, 1) := by decide +kernel
theorem dX3_goesBeyond_17 : decode cX3_goesBeyond 17 = .ok (.ifnull 31, 3) := by decide +kernel
theorem dX3_goesBeyond_20 : decode cX3_goesBeyond 20 = .ok (.aload_n 1, 1) := by decide +kernel
theorem dX3_goesBeyond_21 : decode cX3_goesBeyond 21 = .ok (.iload_n 2, 1) := by decide +kernel
theorem dX3_goesBeyond_22 : decode cX3_goesBeyond 22 = .ok (.invokevirtual 131, 3) := by decide +kernel
theorem dX3_goesBeyond_25 : decode cX3_goesBeyond 25 = .ok (.ifCond .eq 23, 3) := by decide +kernel
theorem dX3_goesBeyond_28 : decode cX3_goesBeyond 28 = .ok (.aload_n 3, 1) := by decide +kernel
theorem dX3_goesBeyond_29 : decode cX3_goesBeyond 29 = .ok (.invokevirtual 138, 3) := by decide +kernel
theorem dX3_goesBeyond_32 : decode cX3_goesBeyond 32 = .ok (.ifCond .eq 16, 3) := by decide +kernel
theorem dX3_goesBeyond_35 : decode cX3_goesBeyond 35 = .ok (.aload_n 3, 1) := by decide +kernel
theorem dX3_goesBeyond_36 : decode cX3_goesBeyond 36 = .ok (.invokevirtual 142, 3) := by decide +kernel
theorem dX3_goesBeyond_39 : decode cX3_goesBeyond 39 = .ok (.aload_n 0, 1) := by decide +kernel
theorem dX3_goesBeyond_40 : decode cX3_goesBeyond 40 = .ok (.getfield 37, 3) := by decide +kernel
theorem dX3_goesBeyond_43 : decode cX3_goesBeyond 43 = .ok (.if_icmp .le 5, 3) := by decide +kernel
theorem dX3_goesBeyond_46 : decode cX3_goesBeyond 46 = .ok (.iconst 1, 1) := by decide +kernel
theorem dX3_goesBeyond_47 : decode cX3_goesBeyond 47 = .ok (.ireturn, 1) := by decide +kernel
theorem dX3_goesBeyond_48 : decode cX3_goesBeyond 48 = .ok (.iinc 2 1, 3) := by decide +kernel
theorem dX3_goesBeyond_51 : decode cX3_goesBeyond 51 = .ok (.goto (-49), 3) := by decide +kernel
theorem dX3_goesBeyond_54 : decode cX3_goesBeyond 54 = .ok (.iconst 0, 1) := by decide +kernel
theorem dX3_goesBeyond_55 : decode cX3_goesBeyond 55 = .ok (.ireturn, 1) := by decide +kernel
theorem dX3_keepRows_0 : decode cX3_keepRows 0 = .ok (.aload_n 0, 1) := by decide +kernel
theorem dX3_keepRows_1 : decode cX3_keepRows 1 = .ok (.getfield 25, 3) := by decide +kernel
theorem dX3_keepRows_4 : decode cX3_keepRows 4 = .ok (.invokevirtual 146, 3) := by decide +kernel
theorem dX3_keepRows_7 : decode cX3_keepRows 7 = .ok (.iload_n 2, 1) := by decide +kernel
theorem dX3_keepRows_8 : decode cX3_keepRows 8 = .ok (.invokestatic 149, 3) := by decide +kernel
theorem dX3_keepRows_11 : decode cX3_keepRows 11 = .ok (.istore 4, 2) := by decide +kernel
theorem dX3_keepRows_13 : decode cX3_keepRows 13 = .ok (.iload 4, 2) := by decide +kernel
theorem dX3_keepRows_15 : decode cX3_keepRows 15 = .ok (.iload_n 2, 1) := by decide +kernel
theorem dX3_keepRows_16 : decode cX3_keepRows 16 = .ok (.invokestatic 152, 3) := by decide +kernel
theorem dX3_keepRows_19 : decode cX3_keepRows 19 = .ok (.if_icmp .gt 76, 3) := by decide +kernel
theorem dX3_keepRows_22 : decode cX3_keepRows 22 = .ok (.aload_n 1, 1) := by decide +kernel
theorem dX3_keepRows_23 : decode cX3_keepRows 23 = .ok (.getfield 155, 3) := by decide +kernel
theorem dX3_keepRows_26 : decode cX3_keepRows 26 = .ok (.iload 4, 2) := by decide +kernel
theorem dX3_keepRows_28 : decode cX3_keepRows 28 = .ok (.iaload, 1) := by decide +kernel
theorem dX3_keepRows_29 : decode cX3_keepRows 29 = .ok (.ifCond .eq 60, 3) := by decide +kernel
theorem dX3_keepRows_32 : decode cX3_keepRows 32 = .ok (.aload_n 1, 1) := by decide +kernel
theorem dX3_keepRows_33 : decode cX3_keepRows 33 = .ok (.iload 4, 2) := by decide +kernel
theorem dX3_keepRows_35 : decode cX3_keepRows 35 = .ok (.aload_n 0, 1) := by decide +kernel
theorem dX3_keepRows_36 : decode cX3_keepRows 36 = .ok (.getfield 29, 3) := by decide +kernel
theorem dX3_keepRows_39 : decode cX3_keepRows 39 = .ok (.invokevirtual 158, 3) := by decide +kernel
theorem dX3_keepRows_42 : decode cX3_keepRows 42 = .ok (.iload_n 3, 1) := by decide +kernel
theorem dX3_keepRows_43 : decode cX3_keepRows 43 = .ok (.invokestatic 149, 3) := by decide +kernel
theorem dX3_keepRows_46 : decode cX3_keepRows 46 = .ok (.istore 5, 2) := by decide +kernel
theorem dX3_keepRows_48 : decode cX3_keepRows 48 = .ok (.iload 5, 2) := by decide +kernel
theorem dX3_keepRows_50 : decode cX3_keepRows 50 = .ok (.iload_n 3, 1) := by decide +kernel
theorem dX3_keepRows_51 : decode cX3_keepRows 51 = .ok (.invokestatic 152, 3) := by decide +kernel
theorem dX3_keepRows_54 : decode cX3_keepRows 54 = .ok (.if_icmp .gt 35, 3) := by decide +kernel
theorem dX3_keepRows_57 : decode cX3_keepRows 57 = .ok (.aload_n 0, 1) := by decide +kernel
theorem dX3_keepRows_58 : decode cX3_keepRows 58 = .ok (.getfield 25, 3) := by decide +kernel
theorem dX3_keepRows_61 : decode cX3_keepRows 61 = .ok (.iload 4, 2) := by decide +kernel
theorem dX3_keepRows_63 : decode cX3_keepRows 63 = .ok (.iload 5, 2) := by decide +kernel
theorem dX3_keepRows_65 : decode cX3_keepRows 65 = .ok (.aload_n 0, 1) := by decide +kernel
theorem dX3_keepRows_66 : decode cX3_keepRows 66 = .ok (.getfield 29, 3) := by decide +kernel
theorem dX3_keepRows_69 : decode cX3_keepRows 69 = .ok (.iload 5, 2) := by decide +kernel
theorem dX3_keepRows_71 : decode cX3_keepRows 71 = .ok (.iaload, 1) := by decide +kernel
theorem dX3_keepRows_72 : decode cX3_keepRows 72 = .ok (.aload_n 1, 1) := by decide +kernel
theorem dX3_keepRows_73 : decode cX3_keepRows 73 = .ok (.iload 4, 2) := by decide +kernel
theorem dX3_keepRows_75 : decode cX3_keepRows 75 = .ok (.iload 5, 2) := by decide +kernel
theorem dX3_keepRows_77 : decode cX3_keepRows 77 = .ok (.invokevirtual 162, 3) := by decide +kernel
theorem dX3_keepRows_80 : decode cX3_keepRows 80 = .ok (.invokevirtual 165, 3) := by decide +kernel
theorem dX3_keepRows_83 : decode cX3_keepRows 83 = .ok (.iinc 5 1, 3) := by decide +kernel
theorem dX3_keepRows_86 : decode cX3_keepRows 86 = .ok (.goto (-38), 3) := by decide +kernel
theorem dX3_keepRows_89 : decode cX3_keepRows 89 = .ok (.iinc 4 1, 3) := by decide +kernel
theorem dX3_keepRows_92 : decode cX3_keepRows 92 = .ok (.goto (-79), 3) := by decide +kernel
theorem dX3_keepRows_95 : decode cX3_keepRows 95 = .ok (.return_, 1) := by decide +kernel
