theorem dX4_init_0 : decode cX4_init 0 = .ok (.aload_n 0, 1) := by decide +kernel
theorem dX4_init_1 : decode cX4_init 1 = .ok (.invokespecial 1, 3) := by decide +kernel
theorem dX4_init_4 : decode cX4_init 4 = .ok (.aload_n 0, 1) := by decide +kernel
theorem dX4_init_5 : decode cX4_init 5 = .ok (.sipush 150, 3) := by decide +kernel
theorem dX4_init_8 : decode cX4_init 8 = .ok (.newarray .int, 2) := by decide +kernel
theorem dX4_init_10 : decode cX4_init 10 = .ok (.putfield 7, 3) := by decide +kernel
theorem dX4_init_13 : decode cX4_init 13 = .ok (.aload_n 0, 1) := by decide +kernel
theorem dX4_init_14 : decode cX4_init 14 = .ok (.sipush 150, 3) := by decide +kernel
theorem dX4_init_17 : decode cX4_init 17 = .ok (.newarray .int, 2) := by decide +kernel
theorem dX4_init_19 : decode cX4_init 19 = .ok (.putfield 13, 3) := by decide +kernel
theorem dX4_init_22 : decode cX4_init 22 = .ok (.aload_n 0, 1) := by decide +kernel
theorem dX4_init_23 : decode cX4_init 23 = .ok (.sipush 150, 3) := by decide +kernel
theorem dX4_init_26 : decode cX4_init 26 = .ok (.newarray .int, 2) := by decide +kernel
theorem dX4_init_28 : decode cX4_init 28 = .ok (.putfield 16, 3) := by decide +kernel
theorem dX4_init_31 : decode cX4_init 31 = .ok (.aload_n 0, 1) := by decide +kernel
theorem dX4_init_32 : decode cX4_init 32 = .ok (.bipush 41, 2) := by decide +kernel
theorem dX4_init_34 : decode cX4_init 34 = .ok (.newarray .int, 2) := by decide +kernel
theorem dX4_init_36 : decode cX4_init 36 = .ok (.putfield 19, 3) := by decide +kernel
theorem dX4_init_39 : decode cX4_init 39 = .ok (.aload_n 0, 1) := by decide +kernel
theorem dX4_init_40 : decode cX4_init 40 = .ok (.bipush 41, 2) := by decide +kernel
theorem dX4_init_42 : decode cX4_init 42 = .ok (.newarray .int, 2) := by decide +kernel
theorem dX4_init_44 : decode cX4_init 44 = .ok (.putfield 22, 3) := by decide +kernel
theorem dX4_init_47 : decode cX4_init 47 = .ok (.aload_n 0, 1) := by decide +kernel
theorem dX4_init_48 : decode cX4_init 48 = .ok (.bipush 41, 2) := by decide +kernel
theorem dX4_init_50 : decode cX4_init 50 = .ok (.newarray .int, 2) := by decide +kernel
theorem dX4_init_52 : decode cX4_init 52 = .ok (.putfield 25, 3) := by decide +kernel
theorem dX4_init_55 : decode cX4_init 55 = .ok (.aload_n 0, 1) := by decide +kernel
theorem dX4_init_56 : decode cX4_init 56 = .ok (.sipush 1024, 3) := by decide +kernel
theorem dX4_init_59 : decode cX4_init 59 = .ok (.putfield 28, 3) := by decide +kernel
theorem dX4_init_62 : decode cX4_init 62 = .ok (.aload_n 0, 1) := by decide +kernel
theorem dX4_init_63 : decode cX4_init 63 = .ok (.ldc 32, 2) := by decide +kernel
theorem dX4_init_65 : decode cX4_init 65 = .ok (.newarray .int, 2) := by decide +kernel
theorem dX4_init_67 : decode cX4_init 67 = .ok (.putfield 33, 3) := by decide +kernel
theorem dX4_init_70 : decode cX4_init 70 = .ok (.aload_n 0, 1) := by decide +kernel
theorem dX4_init_71 : decode cX4_init 71 = .ok (.bipush 41, 2) := by decide +kernel
theorem dX4_init_73 : decode cX4_init 73 = .ok (.newarray .boolean, 2) := by decide +kernel
theorem dX4_init_75 : decode cX4_init 75 = .ok (.putfield 36, 3) := by decide +kernel
theorem dX4_init_78 : decode cX4_init 78 = .ok (.aload_n 0, 1) := by decide +kernel
theorem dX4_init_79 : decode cX4_init 79 = .ok (.bipush 32, 2) := by decide +kernel
theorem dX4_init_81 : decode cX4_init 81 = .ok (.newarray .boolean, 2) := by decide +kernel
theorem dX4_init_83 : decode cX4_init 83 = .ok (.putfield 40, 3) := by decide +kernel
theorem dX4_init_86 : decode cX4_init 86 = .ok (.aload_n 0, 1) := by decide +kernel
theorem dX4_init_87 : decode cX4_init 87 = .ok (.bipush 32, 2) := by decide +kernel
theorem dX4_init_89 : decode cX4_init 89 = .ok (.newarray .int, 2) := by decide +kernel
theorem dX4_init_91 : decode cX4_init 91 = .ok (.putfield 43, 3) := by decide +kernel
theorem dX4_init_94 : decode cX4_init 94 = .ok (.aload_n 0, 1) := by decide +kernel
theorem dX4_init_95 : decode cX4_init 95 = .ok (.bipush 32, 2) := by decide +kernel
theorem dX4_init_97 : decode cX4_init 97 = .ok (.newarray .int, 2) := by decide +kernel
theorem dX4_init_99 : decode cX4_init 99 = .ok (.putfield 46, 3) := by decide +kernel
theorem dX4_init_102 : decode cX4_init 102 = .ok (.aload_n 0, 1) := by decide +kernel
theorem dX4_init_103 : decode cX4_init 103 = .ok (.sipush 2000, 3) := by decide +kernel
theorem dX4_init_106 : decode cX4_init 106 = .ok (.newarray .int, 2) := by decide +kernel
theorem dX4_init_108 : decode cX4_init 108 = .ok (.putfield 49, 3) := by decide +kernel
theorem dX4_init_111 : decode cX4_init 111 = .ok (.aload_n 0, 1) := by decide +kernel
theorem dX4_init_112 : decode cX4_init 112 = .ok (.sipush 2000, 3) := by decide +kernel
theorem dX4_init_115 : decode cX4_init 115 = .ok (.newarray .int, 2) := by decide +kernel
theorem dX4_init_117 : decode cX4_init 117 = .ok (.putfield 52, 3) := by decide +kernel
theorem dX4_init_120 : decode cX4_init 120 = .ok (.aload_n 0, 1) := by decide +kernel
theorem dX4_init_121 : decode cX4_init 121 = .ok (.sipush 2000, 3) := by decide +kernel
theorem dX4_init_124 : decode cX4_init 124 = .ok (.newarray .int, 2) := by decide +kernel
theorem dX4_init_126 : decode cX4_init 126 = .ok (.putfield 55, 3) := by decide +kernel
theorem dX4_init_129 : decode cX4_init 129 = .ok (.return_, 1) := by decide +kernel
theorem dX4_thrown_0 : decode cX4_thrown 0 = .ok (.aload_n 0, 1) := by decide +kernel
theorem dX4_thrown_1 : decode cX4_thrown 1 = .ok (.getfield 58, 3) := by decide +kernel
theorem dX4_thrown_4 : decode cX4_thrown 4 = .ok (.ireturn, 1) := by decide +kernel
theorem dX4_isBetween_0 : decode cX4_isBetween 0 = .ok (.iload_n 0, 1) := by decide +kernel
theorem dX4_isBetween_1 : decode cX4_isBetween 1 = .ok (.iload_n 1, 1) := by decide +kernel
theorem dX4_isBetween_2 : decode cX4_isBetween 2 = .ok (.if_icmp .lt 12, 3) := by decide +kernel
theorem dX4_isBetween_5 : decode cX4_isBetween 5 = .ok (.iload_n 0, 1) := by decide +kernel
theorem dX4_isBetween_6 : decode cX4_isBetween 6 = .ok (.iload_n 2, 1) := by decide +kernel
theorem dX4_isBetween_7 : decode cX4_isBetween 7 = .ok (.if_icmp .gt 7, 3) := by decide +kernel
theorem dX4_isBetween_10 : decode cX4_isBetween 10 = .ok (.iconst 1, 1) := by decide +kernel
theorem dX4_isBetween_11 : decode cX4_isBetween 11 = .ok (.goto 4, 3) := by decide +kernel
theorem dX4_isBetween_14 : decode cX4_isBetween 14 = .ok (.iconst 0, 1) := by decide +kernel
theorem dX4_isBetween_15 : decode cX4_isBetween 15 = .ok (.ireturn, 1) := by decide +kernel
theorem dX4_isNode_0 : decode cX4_isNode 0 = .ok (.iload_n 0, 1) := by decide +kernel
theorem dX4_isNode_1 : decode cX4_isNode 1 = .ok (.iconst 0, 1) := by decide +kernel
theorem dX4_isNode_2 : decode cX4_isNode 2 = .ok (.bipush 31, 2) := by decide +kernel
theorem dX4_isNode_4 : decode cX4_isNode 4 = .ok (.invokestatic 61, 3) := by decide +kernel
theorem dX4_isNode_7 : decode cX4_isNode 7 = .ok (.ireturn, 1) := by decide +kernel
theorem dX4_isPath_0 : decode cX4_isPath 0 = .ok (.iload_n 1, 1) := by decide +kernel
theorem dX4_isPath_1 : decode cX4_isPath 1 = .ok (.iconst 1, 1) := by decide +kernel
theorem dX4_isPath_2 : decode cX4_isPath 2 = .ok (.aload_n 0, 1) := by decide +kernel
theorem dX4_isPath_3 : decode cX4_isPath 3 = .ok (.getfield 65, 3) := by decide +kernel
theorem dX4_isPath_6 : decode cX4_isPath 6 = .ok (.invokestatic 61, 3) := by decide +kernel
theorem dX4_isPath_9 : decode cX4_isPath 9 = .ok (.ireturn, 1) := by decide +kernel
theorem dX4_triple_0 : decode cX4_triple 0 = .ok (.aload_n 0, 1) := by decide +kernel
theorem dX4_triple_1 : decode cX4_triple 1 = .ok (.iconst 0, 1) := by decide +kernel
theorem dX4_triple_2 : decode cX4_triple 2 = .ok (.putfield 58, 3) := by decide +kernel
theorem dX4_triple_5 : decode cX4_triple 5 = .ok (.iload_n 1, 1) := by decide +kernel
theorem dX4_triple_6 : decode cX4_triple 6 = .ok (.invokestatic 68, 3) := by decide +kernel
theorem dX4_triple_9 : decode cX4_triple 9 = .ok (.ifCond .eq 20, 3) := by decide +kernel
theorem dX4_triple_12 : decode cX4_triple 12 = .ok (.iload_n 3, 1) := by decide +kernel
theorem dX4_triple_13 : decode cX4_triple 13 = .ok (.invokestatic 68, 3) := by decide +kernel
theorem dX4_triple_16 : decode cX4_triple 16 = .ok (.ifCond .eq 13, 3) := by decide +kernel
theorem dX4_triple_19 : decode cX4_triple 19 = .ok (.iload_n 2, 1) := by decide +kernel
theorem dX4_triple_20 : decode cX4_triple 20 = .ok (.iconst 0, 1) := by decide +kernel
theorem dX4_triple_21 : decode cX4_triple 21 = .ok (.bipush 15, 2) := by decide +kernel
theorem dX4_triple_23 : decode cX4_triple 23 = .ok (.invokestatic 61, 3) := by decide +kernel
theorem dX4_triple_26 : decode cX4_triple 26 = .ok (.ifCond .ne 6, 3) := by decide +kernel
theorem dX4_triple_29 : decode cX4_triple 29 = .ok (.bipush (-2), 2) := by decide +kernel
theorem dX4_triple_31 : decode cX4_triple 31 = .ok (.ireturn, 1) := by decide +kernel
theorem dX4_triple_32 : decode cX4_triple 32 = .ok (.iconst 0, 1) := by decide +kernel
theorem dX4_triple_33 : decode cX4_triple 33 = .ok (.istore 4, 2) := by decide +kernel
theorem dX4_triple_35 : decode cX4_triple 35 = .ok (.iload 4, 2) := by decide +kernel
theorem dX4_triple_37 : decode cX4_triple 37 = .ok (.aload_n 0, 1) := by decide +kernel
theorem dX4_triple_38 : decode cX4_triple 38 = .ok (.getfield 72, 3) := by decide +kernel
theorem dX4_triple_41 : decode cX4_triple 41 = .ok (.if_icmp .ge 47, 3) := by decide +kernel
theorem dX4_triple_44 : decode cX4_triple 44 = .ok (.aload_n 0, 1) := by decide +kernel
theorem dX4_triple_45 : decode cX4_triple 45 = .ok (.getfield 7, 3) := by decide +kernel
theorem dX4_triple_48 : decode cX4_triple 48 = .ok (.iload 4, 2) := by decide +kernel
theorem dX4_triple_50 : decode cX4_triple 50 = .ok (.iaload, 1) := by decide +kernel
theorem dX4_triple_51 : decode cX4_triple 51 = .ok (.iload_n 1, 1) := by decide +kernel
theorem dX4_triple_52 : decode cX4_triple 52 = .ok (.if_icmp .ne 30, 3) := by decide +kernel
theorem dX4_triple_55 : decode cX4_triple 55 = .ok (.aload_n 0, 1) := by decide +kernel
theorem dX4_triple_56 : decode cX4_triple 56 = .ok (.getfield 13, 3) := by decide +kernel
theorem dX4_triple_59 : decode cX4_triple 59 = .ok (.iload 4, 2) := by decide +kernel
theorem dX4_triple_61 : decode cX4_triple 61 = .ok (.iaload, 1) := by decide +kernel
theorem dX4_triple_62 : decode cX4_triple 62 = .ok (.iload_n 2, 1) := by decide +kernel
theorem dX4_triple_63 : decode cX4_triple 63 = .ok (.if_icmp .ne 19, 3) := by decide +kernel
theorem dX4_triple_66 : decode cX4_triple 66 = .ok (.aload_n 0, 1) := by decide +kernel
theorem dX4_triple_67 : decode cX4_triple 67 = .ok (.getfield 16, 3) := by decide +kernel
theorem dX4_triple_70 : decode cX4_triple 70 = .ok (.iload 4, 2) := by decide +kernel
theorem dX4_triple_72 : decode cX4_triple 72 = .ok (.iaload, 1) := by decide +kernel
theorem dX4_triple_73 : decode cX4_triple 73 = .ok (.iload_n 3, 1) := by decide +kernel
theorem dX4_triple_74 : decode cX4_triple 74 = .ok (.if_icmp .ne 8, 3) := by decide +kernel
theorem dX4_triple_77 : decode cX4_triple 77 = .ok (.aload_n 0, 1) := by decide +kernel
theorem dX4_triple_78 : decode cX4_triple 78 = .ok (.getfield 72, 3) := by decide +kernel
theorem dX4_triple_81 : decode cX4_triple 81 = .ok (.ireturn, 1) := by decide +kernel
theorem dX4_triple_82 : decode cX4_triple 82 = .ok (.iinc 4 1, 3) := by decide +kernel
theorem dX4_triple_85 : decode cX4_triple 85 = .ok (.goto (-50), 3) := by decide +kernel
theorem dX4_triple_88 : decode cX4_triple 88 = .ok (.aload_n 0, 1) := by decide +kernel
theorem dX4_triple_89 : decode cX4_triple 89 = .ok (.getfield 72, 3) := by decide +kernel
theorem dX4_triple_92 : decode cX4_triple 92 = .ok (.sipush 150, 3) := by decide +kernel
theorem dX4_triple_95 : decode cX4_triple 95 = .ok (.if_icmp .ne 6, 3) := by decide +kernel
theorem dX4_triple_98 : decode cX4_triple 98 = .ok (.bipush (-4), 2) := by decide +kernel
theorem dX4_triple_100 : decode cX4_triple 100 = .ok (.ireturn, 1) := by decide +kernel
theorem dX4_triple_101 : decode cX4_triple 101 = .ok (.aload_n 0, 1) := by decide +kernel
theorem dX4_triple_102 : decode cX4_triple 102 = .ok (.getfield 7, 3) := by decide +kernel
theorem dX4_triple_105 : decode cX4_triple 105 = .ok (.aload_n 0, 1) := by decide +kernel
theorem dX4_triple_106 : decode cX4_triple 106 = .ok (.getfield 72, 3) := by decide +kernel
theorem dX4_triple_109 : decode cX4_triple 109 = .ok (.iload_n 1, 1) := by decide +kernel
theorem dX4_triple_110 : decode cX4_triple 110 = .ok (.iastore, 1) := by decide +kernel
theorem dX4_triple_111 : decode cX4_triple 111 = .ok (.aload_n 0, 1) := by decide +kernel
theorem dX4_triple_112 : decode cX4_triple 112 = .ok (.getfield 13, 3) := by decide +kernel
theorem dX4_triple_115 : decode cX4_triple 115 = .ok (.aload_n 0, 1) := by decide +kernel
theorem dX4_triple_116 : decode cX4_triple 116 = .ok (.getfield 72, 3) := by decide +kernel
theorem dX4_triple_119 : decode cX4_triple 119 = .ok (.iload_n 2, 1) := by decide +kernel
theorem dX4_triple_120 : decode cX4_triple 120 = .ok (.iastore, 1) := by decide +kernel
theorem dX4_triple_121 : decode cX4_triple 121 = .ok (.aload_n 0, 1) := by decide +kernel
theorem dX4_triple_122 : decode cX4_triple 122 = .ok (.getfield 16, 3) := by decide +kernel
theorem dX4_triple_125 : decode cX4_triple 125 = .ok (.aload_n 0, 1) := by decide +kernel
theorem dX4_triple_126 : decode cX4_triple 126 = .ok (.getfield 72, 3) := by decide +kernel
theorem dX4_triple_129 : decode cX4_triple 129 = .ok (.iload_n 3, 1) := by decide +kernel
theorem dX4_triple_130 : decode cX4_triple 130 = .ok (.iastore, 1) := by decide +kernel
theorem dX4_triple_131 : decode cX4_triple 131 = .ok (.aload_n 0, 1) := by decide +kernel
theorem dX4_triple_132 : decode cX4_triple 132 = .ok (.dup, 1) := by decide +kernel
theorem dX4_triple_133 : decode cX4_triple 133 = .ok (.getfield 72, 3) := by decide +kernel
theorem dX4_triple_136 : decode cX4_triple 136 = .ok (.iconst 1, 1) := by decide +kernel
theorem dX4_triple_137 : decode cX4_triple 137 = .ok (.iadd, 1) := by decide +kernel
theorem dX4_triple_138 : decode cX4_triple 138 = .ok (.putfield 72, 3) := by decide +kernel
theorem dX4_triple_141 : decode cX4_triple 141 = .ok (.aload_n 0, 1) := by decide +kernel
theorem dX4_triple_142 : decode cX4_triple 142 = .ok (.getfield 72, 3) := by decide +kernel
theorem dX4_triple_145 : decode cX4_triple 145 = .ok (.ireturn, 1) := by decide +kernel
theorem dX4_made_0 : decode cX4_made 0 = .ok (.aload_n 0, 1) := by decide +kernel
theorem dX4_made_1 : decode cX4_made 1 = .ok (.getfield 65, 3) := by decide +kernel
theorem dX4_made_4 : decode cX4_made 4 = .ok (.bipush 40, 2) := by decide +kernel
theorem dX4_made_6 : decode cX4_made 6 = .ok (.if_icmp .ne 6, 3) := by decide +kernel
theorem dX4_made_9 : decode cX4_made 9 = .ok (.bipush (-4), 2) := by decide +kernel
theorem dX4_made_11 : decode cX4_made 11 = .ok (.ireturn, 1) := by decide +kernel
theorem dX4_made_12 : decode cX4_made 12 = .ok (.aload_n 0, 1) := by decide +kernel
theorem dX4_made_13 : decode cX4_made 13 = .ok (.dup, 1) := by decide +kernel
theorem dX4_made_14 : decode cX4_made 14 = .ok (.getfield 65, 3) := by decide +kernel
theorem dX4_made_17 : decode cX4_made 17 = .ok (.iconst 1, 1) := by decide +kernel
theorem dX4_made_18 : decode cX4_made 18 = .ok (.iadd, 1) := by decide +kernel
theorem dX4_made_19 : decode cX4_made 19 = .ok (.putfield 65, 3) := by decide +kernel
theorem dX4_made_22 : decode cX4_made 22 = .ok (.aload_n 0, 1) := by decide +kernel
theorem dX4_made_23 : decode cX4_made 23 = .ok (.getfield 19, 3) := by decide +kernel
theorem dX4_made_26 : decode cX4_made 26 = .ok (.aload_n 0, 1) := by decide +kernel
theorem dX4_made_27 : decode cX4_made 27 = .ok (.getfield 65, 3) := by decide +kernel
theorem dX4_made_30 : decode cX4_made 30 = .ok (.iload_n 1, 1) := by decide +kernel
theorem dX4_made_31 : decode cX4_made 31 = .ok (.iastore, 1) := by decide +kernel
theorem dX4_made_32 : decode cX4_made 32 = .ok (.aload_n 0, 1) := by decide +kernel
theorem dX4_made_33 : decode cX4_made 33 = .ok (.getfield 22, 3) := by decide +kernel
theorem dX4_made_36 : decode cX4_made 36 = .ok (.aload_n 0, 1) := by decide +kernel
theorem dX4_made_37 : decode cX4_made 37 = .ok (.getfield 65, 3) := by decide +kernel
theorem dX4_made_40 : decode cX4_made 40 = .ok (.iload_n 2, 1) := by decide +kernel
theorem dX4_made_41 : decode cX4_made 41 = .ok (.iastore, 1) := by decide +kernel
theorem dX4_made_42 : decode cX4_made 42 = .ok (.aload_n 0, 1) := by decide +kernel
theorem dX4_made_43 : decode cX4_made 43 = .ok (.getfield 25, 3) := by decide +kernel
theorem dX4_made_46 : decode cX4_made 46 = .ok (.aload_n 0, 1) := by decide +kernel
theorem dX4_made_47 : decode cX4_made 47 = .ok (.getfield 65, 3) := by decide +kernel
theorem dX4_made_50 : decode cX4_made 50 = .ok (.iload_n 3, 1) := by decide +kernel
theorem dX4_made_51 : decode cX4_made 51 = .ok (.iastore, 1) := by decide +kernel
theorem dX4_made_52 : decode cX4_made 52 = .ok (.aload_n 0, 1) := by decide +kernel
theorem dX4_made_53 : decode cX4_made 53 = .ok (.getfield 65, 3) := by decide +kernel
theorem dX4_made_56 : decode cX4_made 56 = .ok (.ireturn, 1) := by decide +kernel
theorem dX4_path_0 : decode cX4_path 0 = .ok (.aload_n 0, 1) := by decide +kernel
theorem dX4_path_1 : decode cX4_path 1 = .ok (.iconst 0, 1) := by decide +kernel
theorem dX4_path_2 : decode cX4_path 2 = .ok (.putfield 58, 3) := by decide +kernel
theorem dX4_path_5 : decode cX4_path 5 = .ok (.iload_n 1, 1) := by decide +kernel
theorem dX4_path_6 : decode cX4_path 6 = .ok (.iconst 1, 1) := by decide +kernel
theorem dX4_path_7 : decode cX4_path 7 = .ok (.bipush 6, 2) := by decide +kernel
theorem dX4_path_9 : decode cX4_path 9 = .ok (.invokestatic 61, 3) := by decide +kernel
theorem dX4_path_12 : decode cX4_path 12 = .ok (.ifCond .eq 11, 3) := by decide +kernel
theorem dX4_path_15 : decode cX4_path 15 = .ok (.aload_n 0, 1) := by decide +kernel
theorem dX4_path_16 : decode cX4_path 16 = .ok (.iload_n 2, 1) := by decide +kernel
theorem dX4_path_17 : decode cX4_path 17 = .ok (.invokevirtual 75, 3) := by decide +kernel
theorem dX4_path_20 : decode cX4_path 20 = .ok (.ifCond .eq 20, 3) := by decide +kernel
theorem dX4_path_23 : decode cX4_path 23 = .ok (.iload_n 1, 1) := by decide +kernel
theorem dX4_path_24 : decode cX4_path 24 = .ok (.iconst 2, 1) := by decide +kernel
theorem dX4_path_25 : decode cX4_path 25 = .ok (.iconst 3, 1) := by decide +kernel
theorem dX4_path_26 : decode cX4_path 26 = .ok (.invokestatic 61, 3) := by decide +kernel
theorem dX4_path_29 : decode cX4_path 29 = .ok (.ifCond .eq 13, 3) := by decide +kernel
theorem dX4_path_32 : decode cX4_path 32 = .ok (.aload_n 0, 1) := by decide +kernel
theorem dX4_path_33 : decode cX4_path 33 = .ok (.iload_n 3, 1) := by decide +kernel
theorem dX4_path_34 : decode cX4_path 34 = .ok (.invokevirtual 75, 3) := by decide +kernel
theorem dX4_path_37 : decode cX4_path 37 = .ok (.ifCond .ne 5, 3) := by decide +kernel
theorem dX4_path_40 : decode cX4_path 40 = .ok (.iconst (-1), 1) := by decide +kernel
theorem dX4_path_41 : decode cX4_path 41 = .ok (.ireturn, 1) := by decide +kernel
theorem dX4_path_42 : decode cX4_path 42 = .ok (.iload_n 1, 1) := by decide +kernel
theorem dX4_path_43 : decode cX4_path 43 = .ok (.iconst 0, 1) := by decide +kernel
theorem dX4_path_44 : decode cX4_path 44 = .ok (.bipush 6, 2) := by decide +kernel
theorem dX4_path_46 : decode cX4_path 46 = .ok (.invokestatic 61, 3) := by decide +kernel
theorem dX4_path_49 : decode cX4_path 49 = .ok (.ifCond .eq 17, 3) := by decide +kernel
theorem dX4_path_52 : decode cX4_path 52 = .ok (.iload_n 1, 1) := by decide +kernel
theorem dX4_path_53 : decode cX4_path 53 = .ok (.ifCond .ne 16, 3) := by decide +kernel
theorem dX4_path_56 : decode cX4_path 56 = .ok (.iload_n 2, 1) := by decide +kernel
theorem dX4_path_57 : decode cX4_path 57 = .ok (.iconst 0, 1) := by decide +kernel
theorem dX4_path_58 : decode cX4_path 58 = .ok (.bipush 15, 2) := by decide +kernel
theorem dX4_path_60 : decode cX4_path 60 = .ok (.invokestatic 61, 3) := by decide +kernel
theorem dX4_path_63 : decode cX4_path 63 = .ok (.ifCond .ne 6, 3) := by decide +kernel
theorem dX4_path_66 : decode cX4_path 66 = .ok (.bipush (-2), 2) := by decide +kernel
theorem dX4_path_68 : decode cX4_path 68 = .ok (.ireturn, 1) := by decide +kernel
theorem dX4_path_69 : decode cX4_path 69 = .ok (.aload_n 0, 1) := by decide +kernel
theorem dX4_path_70 : decode cX4_path 70 = .ok (.iload_n 1, 1) := by decide +kernel
theorem dX4_path_71 : decode cX4_path 71 = .ok (.iload_n 2, 1) := by decide +kernel
theorem dX4_path_72 : decode cX4_path 72 = .ok (.iload_n 3, 1) := by decide +kernel
theorem dX4_path_73 : decode cX4_path 73 = .ok (.invokevirtual 78, 3) := by decide +kernel
theorem dX4_path_76 : decode cX4_path 76 = .ok (.ireturn, 1) := by decide +kernel
theorem dX4_inverse_0 : decode cX4_inverse 0 = .ok (.aload_n 0, 1) := by decide +kernel
theorem dX4_inverse_1 : decode cX4_inverse 1 = .ok (.iconst 0, 1) := by decide +kernel
theorem dX4_inverse_2 : decode cX4_inverse 2 = .ok (.putfield 58, 3) := by decide +kernel
theorem dX4_inverse_5 : decode cX4_inverse 5 = .ok (.aload_n 0, 1) := by decide +kernel
theorem dX4_inverse_6 : decode cX4_inverse 6 = .ok (.iload_n 1, 1) := by decide +kernel
theorem dX4_inverse_7 : decode cX4_inverse 7 = .ok (.invokevirtual 75, 3) := by decide +kernel
theorem dX4_inverse_10 : decode cX4_inverse 10 = .ok (.ifCond .eq 13, 3) := by decide +kernel
theorem dX4_inverse_13 : decode cX4_inverse 13 = .ok (.aload_n 0, 1) := by decide +kernel
theorem dX4_inverse_14 : decode cX4_inverse 14 = .ok (.iconst 1, 1) := by decide +kernel
theorem dX4_inverse_15 : decode cX4_inverse 15 = .ok (.iload_n 1, 1) := by decide +kernel
theorem dX4_inverse_16 : decode cX4_inverse 16 = .ok (.iconst 0, 1) := by decide +kernel
theorem dX4_inverse_17 : decode cX4_inverse 17 = .ok (.invokevirtual 78, 3) := by decide +kernel
theorem dX4_inverse_20 : decode cX4_inverse 20 = .ok (.goto 4, 3) := by decide +kernel
theorem dX4_inverse_23 : decode cX4_inverse 23 = .ok (.iconst (-1), 1) := by decide +kernel
theorem dX4_inverse_24 : decode cX4_inverse 24 = .ok (.ireturn, 1) := by decide +kernel
theorem dX4_negated_0 : decode cX4_negated 0 = .ok (.aload_n 0, 1) := by decide +kernel
theorem dX4_negated_1 : decode cX4_negated 1 = .ok (.iconst 0, 1) := by decide +kernel
theorem dX4_negated_2 : decode cX4_negated 2 = .ok (.putfield 58, 3) := by decide +kernel
theorem dX4_negated_5 : decode cX4_negated 5 = .ok (.iload_n 1, 1) := by decide +kernel
theorem dX4_negated_6 : decode cX4_negated 6 = .ok (.iconst 0, 1) := by decide +kernel
theorem dX4_negated_7 : decode cX4_negated 7 = .ok (.bipush 15, 2) := by decide +kernel
theorem dX4_negated_9 : decode cX4_negated 9 = .ok (.invokestatic 61, 3) := by decide +kernel
theorem dX4_negated_12 : decode cX4_negated 12 = .ok (.ifCond .eq 13, 3) := by decide +kernel
theorem dX4_negated_15 : decode cX4_negated 15 = .ok (.iload_n 2, 1) := by decide +kernel
theorem dX4_negated_16 : decode cX4_negated 16 = .ok (.iconst (-1), 1) := by decide +kernel
theorem dX4_negated_17 : decode cX4_negated 17 = .ok (.bipush 15, 2) := by decide +kernel
theorem dX4_negated_19 : decode cX4_negated 19 = .ok (.invokestatic 61, 3) := by decide +kernel
theorem dX4_negated_22 : decode cX4_negated 22 = .ok (.ifCond .ne 6, 3) := by decide +kernel
theorem dX4_negated_25 : decode cX4_negated 25 = .ok (.bipush (-2), 2) := by decide +kernel
theorem dX4_negated_27 : decode cX4_negated 27 = .ok (.ireturn, 1) := by decide +kernel
theorem dX4_negated_28 : decode cX4_negated 28 = .ok (.aload_n 0, 1) := by decide +kernel
theorem dX4_negated_29 : decode cX4_negated 29 = .ok (.bipush 7, 2) := by decide +kernel
theorem dX4_negated_31 : decode cX4_negated 31 = .ok (.iload_n 1, 1) := by decide +kernel
theorem dX4_negated_32 : decode cX4_negated 32 = .ok (.iload_n 2, 1) := by decide +kernel
theorem dX4_negated_33 : decode cX4_negated 33 = .ok (.invokevirtual 78, 3) := by decide +kernel
theorem dX4_negated_36 : decode cX4_negated 36 = .ok (.ireturn, 1) := by decide +kernel
theorem dX4_from_0 : decode cX4_from 0 = .ok (.aload_n 0, 1) := by decide +kernel
theorem dX4_from_1 : decode cX4_from 1 = .ok (.iconst 0, 1) := by decide +kernel
theorem dX4_from_2 : decode cX4_from 2 = .ok (.putfield 58, 3) := by decide +kernel
theorem dX4_from_5 : decode cX4_from 5 = .ok (.iload_n 1, 1) := by decide +kernel
theorem dX4_from_6 : decode cX4_from 6 = .ok (.invokestatic 68, 3) := by decide +kernel
theorem dX4_from_9 : decode cX4_from 9 = .ok (.ifCond .ne 6, 3) := by decide +kernel
theorem dX4_from_12 : decode cX4_from 12 = .ok (.bipush (-2), 2) := by decide +kernel
theorem dX4_from_14 : decode cX4_from 14 = .ok (.ireturn, 1) := by decide +kernel
theorem dX4_from_15 : decode cX4_from 15 = .ok (.iconst 0, 1) := by decide +kernel
theorem dX4_from_16 : decode cX4_from 16 = .ok (.istore_n 2, 1) := by decide +kernel
theorem dX4_from_17 : decode cX4_from 17 = .ok (.iconst 0, 1) := by decide +kernel
theorem dX4_from_18 : decode cX4_from 18 = .ok (.istore_n 3, 1) := by decide +kernel
theorem dX4_from_19 : decode cX4_from 19 = .ok (.iload_n 3, 1) := by decide +kernel
theorem dX4_from_20 : decode cX4_from 20 = .ok (.aload_n 0, 1) := by decide +kernel
theorem dX4_from_21 : decode cX4_from 21 = .ok (.getfield 72, 3) := by decide +kernel
theorem dX4_from_24 : decode cX4_from 24 = .ok (.if_icmp .ge 27, 3) := by decide +kernel
theorem dX4_from_27 : decode cX4_from 27 = .ok (.aload_n 0, 1) := by decide +kernel
theorem dX4_from_28 : decode cX4_from 28 = .ok (.getfield 7, 3) := by decide +kernel
theorem dX4_from_31 : decode cX4_from 31 = .ok (.iload_n 3, 1) := by decide +kernel
theorem dX4_from_32 : decode cX4_from 32 = .ok (.iaload, 1) := by decide +kernel
theorem dX4_from_33 : decode cX4_from 33 = .ok (.iload_n 1, 1) := by decide +kernel
theorem dX4_from_34 : decode cX4_from 34 = .ok (.if_icmp .ne 9, 3) := by decide +kernel
theorem dX4_from_37 : decode cX4_from 37 = .ok (.iload_n 2, 1) := by decide +kernel
theorem dX4_from_38 : decode cX4_from 38 = .ok (.iconst 1, 1) := by decide +kernel
theorem dX4_from_39 : decode cX4_from 39 = .ok (.iadd, 1) := by decide +kernel
theorem dX4_from_40 : decode cX4_from 40 = .ok (.goto 4, 3) := by decide +kernel
theorem dX4_from_43 : decode cX4_from 43 = .ok (.iload_n 2, 1) := by decide +kernel
theorem dX4_from_44 : decode cX4_from 44 = .ok (.istore_n 2, 1) := by decide +kernel
theorem dX4_from_45 : decode cX4_from 45 = .ok (.iinc 3 1, 3) := by decide +kernel
theorem dX4_from_48 : decode cX4_from 48 = .ok (.goto (-29), 3) := by decide +kernel
theorem dX4_from_51 : decode cX4_from 51 = .ok (.iload_n 2, 1) := by decide +kernel
theorem dX4_from_52 : decode cX4_from 52 = .ok (.ireturn, 1) := by decide +kernel
theorem dX4_steps_0 : decode cX4_steps 0 = .ok (.aload_n 0, 1) := by decide +kernel
theorem dX4_steps_1 : decode cX4_steps 1 = .ok (.iconst 0, 1) := by decide +kernel
theorem dX4_steps_2 : decode cX4_steps 2 = .ok (.putfield 58, 3) := by decide +kernel
theorem dX4_steps_5 : decode cX4_steps 5 = .ok (.iload_n 1, 1) := by decide +kernel
theorem dX4_steps_6 : decode cX4_steps 6 = .ok (.iconst 1, 1) := by decide +kernel
theorem dX4_steps_7 : decode cX4_steps 7 = .ok (.sipush 1024, 3) := by decide +kernel
theorem dX4_steps_10 : decode cX4_steps 10 = .ok (.invokestatic 61, 3) := by decide +kernel
theorem dX4_steps_13 : decode cX4_steps 13 = .ok (.ifCond .ne 6, 3) := by decide +kernel
theorem dX4_steps_16 : decode cX4_steps 16 = .ok (.bipush (-2), 2) := by decide +kernel
theorem dX4_steps_18 : decode cX4_steps 18 = .ok (.ireturn, 1) := by decide +kernel
theorem dX4_steps_19 : decode cX4_steps 19 = .ok (.aload_n 0, 1) := by decide +kernel
theorem dX4_steps_20 : decode cX4_steps 20 = .ok (.iload_n 1, 1) := by decide +kernel
theorem dX4_steps_21 : decode cX4_steps 21 = .ok (.putfield 28, 3) := by decide +kernel
theorem dX4_steps_24 : decode cX4_steps 24 = .ok (.iconst 1, 1) := by decide +kernel
theorem dX4_steps_25 : decode cX4_steps 25 = .ok (.ireturn, 1) := by decide +kernel
theorem dX4_cell_0 : decode cX4_cell 0 = .ok (.aload_n 0, 1) := by decide +kernel
theorem dX4_cell_1 : decode cX4_cell 1 = .ok (.getfield 33, 3) := by decide +kernel
theorem dX4_cell_4 : decode cX4_cell 4 = .ok (.sipush 1024, 3) := by decide +kernel
theorem dX4_cell_7 : decode cX4_cell 7 = .ok (.iload_n 1, 1) := by decide +kernel
theorem dX4_cell_8 : decode cX4_cell 8 = .ok (.imul, 1) := by decide +kernel
theorem dX4_cell_9 : decode cX4_cell 9 = .ok (.bipush 32, 2) := by decide +kernel
theorem dX4_cell_11 : decode cX4_cell 11 = .ok (.iload_n 2, 1) := by decide +kernel
theorem dX4_cell_12 : decode cX4_cell 12 = .ok (.imul, 1) := by decide +kernel
theorem dX4_cell_13 : decode cX4_cell 13 = .ok (.iadd, 1) := by decide +kernel
theorem dX4_cell_14 : decode cX4_cell 14 = .ok (.iload_n 3, 1) := by decide +kernel
theorem dX4_cell_15 : decode cX4_cell 15 = .ok (.iadd, 1) := by decide +kernel
theorem dX4_cell_16 : decode cX4_cell 16 = .ok (.iaload, 1) := by decide +kernel
theorem dX4_cell_17 : decode cX4_cell 17 = .ok (.ireturn, 1) := by decide +kernel
theorem dX4_put_0 : decode cX4_put 0 = .ok (.aload_n 0, 1) := by decide +kernel
theorem dX4_put_1 : decode cX4_put 1 = .ok (.getfield 33, 3) := by decide +kernel
theorem dX4_put_4 : decode cX4_put 4 = .ok (.sipush 1024, 3) := by decide +kernel
theorem dX4_put_7 : decode cX4_put 7 = .ok (.iload_n 1, 1) := by decide +kernel
theorem dX4_put_8 : decode cX4_put 8 = .ok (.imul, 1) := by decide +kernel
theorem dX4_put_9 : decode cX4_put 9 = .ok (.bipush 32, 2) := by decide +kernel
theorem dX4_put_11 : decode cX4_put 11 = .ok (.iload_n 2, 1) := by decide +kernel
theorem dX4_put_12 : decode cX4_put 12 = .ok (.imul, 1) := by decide +kernel
theorem dX4_put_13 : decode cX4_put 13 = .ok (.iadd, 1) := by decide +kernel
theorem dX4_put_14 : decode cX4_put 14 = .ok (.iload_n 3, 1) := by decide +kernel
theorem dX4_put_15 : decode cX4_put 15 = .ok (.iadd, 1) := by decide +kernel
theorem dX4_put_16 : decode cX4_put 16 = .ok (.lload 4, 2) := by decide +kernel
theorem dX4_put_18 : decode cX4_put 18 = .ok (.ldc2_w 82, 3) := by decide +kernel
theorem dX4_put_21 : decode cX4_put 21 = .ok (.lcmp, 1) := by decide +kernel
theorem dX4_put_22 : decode cX4_put 22 = .ok (.ifCond .le 9, 3) := by decide +kernel
theorem dX4_put_25 : decode cX4_put 25 = .ok (.ldc2_w 82, 3) := by decide +kernel
theorem dX4_put_28 : decode cX4_put 28 = .ok (.goto 5, 3) := by decide +kernel
theorem dX4_put_31 : decode cX4_put 31 = .ok (.lload 4, 2) := by decide +kernel
theorem dX4_put_33 : decode cX4_put 33 = .ok (.l2i, 1) := by decide +kernel
theorem dX4_put_34 : decode cX4_put 34 = .ok (.iastore, 1) := by decide +kernel
theorem dX4_put_35 : decode cX4_put 35 = .ok (.return_, 1) := by decide +kernel
theorem dX4_findNeeded_0 : decode cX4_findNeeded 0 = .ok (.iconst 1, 1) := by decide +kernel
theorem dX4_findNeeded_1 : decode cX4_findNeeded 1 = .ok (.istore_n 2, 1) := by decide +kernel
theorem dX4_findNeeded_2 : decode cX4_findNeeded 2 = .ok (.iload_n 2, 1) := by decide +kernel
theorem dX4_findNeeded_3 : decode cX4_findNeeded 3 = .ok (.aload_n 0, 1) := by decide +kernel
theorem dX4_findNeeded_4 : decode cX4_findNeeded 4 = .ok (.getfield 65, 3) := by decide +kernel
theorem dX4_findNeeded_7 : decode cX4_findNeeded 7 = .ok (.if_icmp .gt 25, 3) := by decide +kernel
theorem dX4_findNeeded_10 : decode cX4_findNeeded 10 = .ok (.aload_n 0, 1) := by decide +kernel
theorem dX4_findNeeded_11 : decode cX4_findNeeded 11 = .ok (.getfield 36, 3) := by decide +kernel
theorem dX4_findNeeded_14 : decode cX4_findNeeded 14 = .ok (.iload_n 2, 1) := by decide +kernel
theorem dX4_findNeeded_15 : decode cX4_findNeeded 15 = .ok (.iload_n 2, 1) := by decide +kernel
theorem dX4_findNeeded_16 : decode cX4_findNeeded 16 = .ok (.iload_n 1, 1) := by decide +kernel
theorem dX4_findNeeded_17 : decode cX4_findNeeded 17 = .ok (.if_icmp .ne 7, 3) := by decide +kernel
theorem dX4_findNeeded_20 : decode cX4_findNeeded 20 = .ok (.iconst 1, 1) := by decide +kernel
theorem dX4_findNeeded_21 : decode cX4_findNeeded 21 = .ok (.goto 4, 3) := by decide +kernel
theorem dX4_findNeeded_24 : decode cX4_findNeeded 24 = .ok (.iconst 0, 1) := by decide +kernel
theorem dX4_findNeeded_25 : decode cX4_findNeeded 25 = .ok (.bastore, 1) := by decide +kernel
theorem dX4_findNeeded_26 : decode cX4_findNeeded 26 = .ok (.iinc 2 1, 3) := by decide +kernel
theorem dX4_findNeeded_29 : decode cX4_findNeeded 29 = .ok (.goto (-27), 3) := by decide +kernel
theorem dX4_findNeeded_32 : decode cX4_findNeeded 32 = .ok (.iload_n 1, 1) := by decide +kernel
theorem dX4_findNeeded_33 : decode cX4_findNeeded 33 = .ok (.istore_n 2, 1) := by decide +kernel
theorem dX4_findNeeded_34 : decode cX4_findNeeded 34 = .ok (.iload_n 2, 1) := by decide +kernel
theorem dX4_findNeeded_35 : decode cX4_findNeeded 35 = .ok (.ifCond .le 80, 3) := by decide +kernel
theorem dX4_findNeeded_38 : decode cX4_findNeeded 38 = .ok (.aload_n 0, 1) := by decide +kernel
theorem dX4_findNeeded_39 : decode cX4_findNeeded 39 = .ok (.getfield 36, 3) := by decide +kernel
theorem dX4_findNeeded_42 : decode cX4_findNeeded 42 = .ok (.iload_n 2, 1) := by decide +kernel
theorem dX4_findNeeded_43 : decode cX4_findNeeded 43 = .ok (.baload, 1) := by decide +kernel
theorem dX4_findNeeded_44 : decode cX4_findNeeded 44 = .ok (.ifCond .eq 30, 3) := by decide +kernel
theorem dX4_findNeeded_47 : decode cX4_findNeeded 47 = .ok (.aload_n 0, 1) := by decide +kernel
theorem dX4_findNeeded_48 : decode cX4_findNeeded 48 = .ok (.getfield 19, 3) := by decide +kernel
theorem dX4_findNeeded_51 : decode cX4_findNeeded 51 = .ok (.iload_n 2, 1) := by decide +kernel
theorem dX4_findNeeded_52 : decode cX4_findNeeded 52 = .ok (.iaload, 1) := by decide +kernel
theorem dX4_findNeeded_53 : decode cX4_findNeeded 53 = .ok (.iconst 1, 1) := by decide +kernel
theorem dX4_findNeeded_54 : decode cX4_findNeeded 54 = .ok (.bipush 6, 2) := by decide +kernel
theorem dX4_findNeeded_56 : decode cX4_findNeeded 56 = .ok (.invokestatic 61, 3) := by decide +kernel
theorem dX4_findNeeded_59 : decode cX4_findNeeded 59 = .ok (.ifCond .eq 15, 3) := by decide +kernel
theorem dX4_findNeeded_62 : decode cX4_findNeeded 62 = .ok (.aload_n 0, 1) := by decide +kernel
theorem dX4_findNeeded_63 : decode cX4_findNeeded 63 = .ok (.getfield 36, 3) := by decide +kernel
theorem dX4_findNeeded_66 : decode cX4_findNeeded 66 = .ok (.aload_n 0, 1) := by decide +kernel
theorem dX4_findNeeded_67 : decode cX4_findNeeded 67 = .ok (.getfield 22, 3) := by decide +kernel
theorem dX4_findNeeded_70 : decode cX4_findNeeded 70 = .ok (.iload_n 2, 1) := by decide +kernel
theorem dX4_findNeeded_71 : decode cX4_findNeeded 71 = .ok (.iaload, 1) := by decide +kernel
theorem dX4_findNeeded_72 : decode cX4_findNeeded 72 = .ok (.iconst 1, 1) := by decide +kernel
theorem dX4_findNeeded_73 : decode cX4_findNeeded 73 = .ok (.bastore, 1) := by decide +kernel
theorem dX4_findNeeded_74 : decode cX4_findNeeded 74 = .ok (.aload_n 0, 1) := by decide +kernel
theorem dX4_findNeeded_75 : decode cX4_findNeeded 75 = .ok (.getfield 36, 3) := by decide +kernel
theorem dX4_findNeeded_78 : decode cX4_findNeeded 78 = .ok (.iload_n 2, 1) := by decide +kernel
theorem dX4_findNeeded_79 : decode cX4_findNeeded 79 = .ok (.baload, 1) := by decide +kernel
theorem dX4_findNeeded_80 : decode cX4_findNeeded 80 = .ok (.ifCond .eq 29, 3) := by decide +kernel
theorem dX4_findNeeded_83 : decode cX4_findNeeded 83 = .ok (.aload_n 0, 1) := by decide +kernel
theorem dX4_findNeeded_84 : decode cX4_findNeeded 84 = .ok (.getfield 19, 3) := by decide +kernel
theorem dX4_findNeeded_87 : decode cX4_findNeeded 87 = .ok (.iload_n 2, 1) := by decide +kernel
theorem dX4_findNeeded_88 : decode cX4_findNeeded 88 = .ok (.iaload, 1) := by decide +kernel
theorem dX4_findNeeded_89 : decode cX4_findNeeded 89 = .ok (.iconst 2, 1) := by decide +kernel
theorem dX4_findNeeded_90 : decode cX4_findNeeded 90 = .ok (.iconst 3, 1) := by decide +kernel
theorem dX4_findNeeded_91 : decode cX4_findNeeded 91 = .ok (.invokestatic 61, 3) := by decide +kernel
theorem dX4_findNeeded_94 : decode cX4_findNeeded 94 = .ok (.ifCond .eq 15, 3) := by decide +kernel
theorem dX4_findNeeded_97 : decode cX4_findNeeded 97 = .ok (.aload_n 0, 1) := by decide +kernel
theorem dX4_findNeeded_98 : decode cX4_findNeeded 98 = .ok (.getfield 36, 3) := by decide +kernel
theorem dX4_findNeeded_101 : decode cX4_findNeeded 101 = .ok (.aload_n 0, 1) := by decide +kernel
theorem dX4_findNeeded_102 : decode cX4_findNeeded 102 = .ok (.getfield 25, 3) := by decide +kernel
theorem dX4_findNeeded_105 : decode cX4_findNeeded 105 = .ok (.iload_n 2, 1) := by decide +kernel
theorem dX4_findNeeded_106 : decode cX4_findNeeded 106 = .ok (.iaload, 1) := by decide +kernel
theorem dX4_findNeeded_107 : decode cX4_findNeeded 107 = .ok (.iconst 1, 1) := by decide +kernel
theorem dX4_findNeeded_108 : decode cX4_findNeeded 108 = .ok (.bastore, 1) := by decide +kernel
theorem dX4_findNeeded_109 : decode cX4_findNeeded 109 = .ok (.iinc 2 (-1), 3) := by decide +kernel
theorem dX4_findNeeded_112 : decode cX4_findNeeded 112 = .ok (.goto (-78), 3) := by decide +kernel
theorem dX4_findNeeded_115 : decode cX4_findNeeded 115 = .ok (.return_, 1) := by decide +kernel
theorem dX4_findGraph_0 : decode cX4_findGraph 0 = .ok (.iconst 0, 1) := by decide +kernel
theorem dX4_findGraph_1 : decode cX4_findGraph 1 = .ok (.istore_n 3, 1) := by decide +kernel
theorem dX4_findGraph_2 : decode cX4_findGraph 2 = .ok (.iload_n 3, 1) := by decide +kernel
theorem dX4_findGraph_3 : decode cX4_findGraph 3 = .ok (.bipush 32, 2) := by decide +kernel
theorem dX4_findGraph_5 : decode cX4_findGraph 5 = .ok (.if_icmp .ge 30, 3) := by decide +kernel
theorem dX4_findGraph_8 : decode cX4_findGraph 8 = .ok (.aload_n 0, 1) := by decide +kernel
theorem dX4_findGraph_9 : decode cX4_findGraph 9 = .ok (.getfield 40, 3) := by decide +kernel
theorem dX4_findGraph_12 : decode cX4_findGraph 12 = .ok (.iload_n 3, 1) := by decide +kernel
theorem dX4_findGraph_13 : decode cX4_findGraph 13 = .ok (.iload_n 3, 1) := by decide +kernel
theorem dX4_findGraph_14 : decode cX4_findGraph 14 = .ok (.iload_n 1, 1) := by decide +kernel
theorem dX4_findGraph_15 : decode cX4_findGraph 15 = .ok (.if_icmp .eq 8, 3) := by decide +kernel
theorem dX4_findGraph_18 : decode cX4_findGraph 18 = .ok (.iload_n 3, 1) := by decide +kernel
theorem dX4_findGraph_19 : decode cX4_findGraph 19 = .ok (.iload_n 2, 1) := by decide +kernel
theorem dX4_findGraph_20 : decode cX4_findGraph 20 = .ok (.if_icmp .ne 7, 3) := by decide +kernel
theorem dX4_findGraph_23 : decode cX4_findGraph 23 = .ok (.iconst 1, 1) := by decide +kernel
theorem dX4_findGraph_24 : decode cX4_findGraph 24 = .ok (.goto 4, 3) := by decide +kernel
theorem dX4_findGraph_27 : decode cX4_findGraph 27 = .ok (.iconst 0, 1) := by decide +kernel
theorem dX4_findGraph_28 : decode cX4_findGraph 28 = .ok (.bastore, 1) := by decide +kernel
theorem dX4_findGraph_29 : decode cX4_findGraph 29 = .ok (.iinc 3 1, 3) := by decide +kernel
theorem dX4_findGraph_32 : decode cX4_findGraph 32 = .ok (.goto (-30), 3) := by decide +kernel
theorem dX4_findGraph_35 : decode cX4_findGraph 35 = .ok (.iconst 0, 1) := by decide +kernel
theorem dX4_findGraph_36 : decode cX4_findGraph 36 = .ok (.istore_n 3, 1) := by decide +kernel
theorem dX4_findGraph_37 : decode cX4_findGraph 37 = .ok (.iload_n 3, 1) := by decide +kernel
theorem dX4_findGraph_38 : decode cX4_findGraph 38 = .ok (.aload_n 0, 1) := by decide +kernel
theorem dX4_findGraph_39 : decode cX4_findGraph 39 = .ok (.getfield 72, 3) := by decide +kernel
theorem dX4_findGraph_42 : decode cX4_findGraph 42 = .ok (.if_icmp .ge 33, 3) := by decide +kernel
theorem dX4_findGraph_45 : decode cX4_findGraph 45 = .ok (.aload_n 0, 1) := by decide +kernel
theorem dX4_findGraph_46 : decode cX4_findGraph 46 = .ok (.getfield 40, 3) := by decide +kernel
theorem dX4_findGraph_49 : decode cX4_findGraph 49 = .ok (.aload_n 0, 1) := by decide +kernel
theorem dX4_findGraph_50 : decode cX4_findGraph 50 = .ok (.getfield 7, 3) := by decide +kernel
theorem dX4_findGraph_53 : decode cX4_findGraph 53 = .ok (.iload_n 3, 1) := by decide +kernel
theorem dX4_findGraph_54 : decode cX4_findGraph 54 = .ok (.iaload, 1) := by decide +kernel
theorem dX4_findGraph_55 : decode cX4_findGraph 55 = .ok (.iconst 1, 1) := by decide +kernel
theorem dX4_findGraph_56 : decode cX4_findGraph 56 = .ok (.bastore, 1) := by decide +kernel
theorem dX4_findGraph_57 : decode cX4_findGraph 57 = .ok (.aload_n 0, 1) := by decide +kernel
theorem dX4_findGraph_58 : decode cX4_findGraph 58 = .ok (.getfield 40, 3) := by decide +kernel
theorem dX4_findGraph_61 : decode cX4_findGraph 61 = .ok (.aload_n 0, 1) := by decide +kernel
theorem dX4_findGraph_62 : decode cX4_findGraph 62 = .ok (.getfield 16, 3) := by decide +kernel
theorem dX4_findGraph_65 : decode cX4_findGraph 65 = .ok (.iload_n 3, 1) := by decide +kernel
theorem dX4_findGraph_66 : decode cX4_findGraph 66 = .ok (.iaload, 1) := by decide +kernel
theorem dX4_findGraph_67 : decode cX4_findGraph 67 = .ok (.iconst 1, 1) := by decide +kernel
theorem dX4_findGraph_68 : decode cX4_findGraph 68 = .ok (.bastore, 1) := by decide +kernel
theorem dX4_findGraph_69 : decode cX4_findGraph 69 = .ok (.iinc 3 1, 3) := by decide +kernel
theorem dX4_findGraph_72 : decode cX4_findGraph 72 = .ok (.goto (-35), 3) := by decide +kernel
theorem dX4_findGraph_75 : decode cX4_findGraph 75 = .ok (.return_, 1) := by decide +kernel
theorem dX4_makeLinks_0 : decode cX4_makeLinks 0 = .ok (.iconst 0, 1) := by decide +kernel
theorem dX4_makeLinks_1 : decode cX4_makeLinks 1 = .ok (.istore_n 2, 1) := by decide +kernel
theorem dX4_makeLinks_2 : decode cX4_makeLinks 2 = .ok (.iload_n 2, 1) := by decide +kernel
theorem dX4_makeLinks_3 : decode cX4_makeLinks 3 = .ok (.aload_n 0, 1) := by decide +kernel
theorem dX4_makeLinks_4 : decode cX4_makeLinks 4 = .ok (.getfield 72, 3) := by decide +kernel
theorem dX4_makeLinks_7 : decode cX4_makeLinks 7 = .ok (.if_icmp .ge 112, 3) := by decide +kernel
theorem dX4_makeLinks_10 : decode cX4_makeLinks 10 = .ok (.aload_n 0, 1) := by decide +kernel
theorem dX4_makeLinks_11 : decode cX4_makeLinks 11 = .ok (.getfield 13, 3) := by decide +kernel
theorem dX4_makeLinks_14 : decode cX4_makeLinks 14 = .ok (.iload_n 2, 1) := by decide +kernel
theorem dX4_makeLinks_15 : decode cX4_makeLinks 15 = .ok (.iaload, 1) := by decide +kernel
theorem dX4_makeLinks_16 : decode cX4_makeLinks 16 = .ok (.istore_n 3, 1) := by decide +kernel
theorem dX4_makeLinks_17 : decode cX4_makeLinks 17 = .ok (.aload_n 0, 1) := by decide +kernel
theorem dX4_makeLinks_18 : decode cX4_makeLinks 18 = .ok (.getfield 19, 3) := by decide +kernel
theorem dX4_makeLinks_21 : decode cX4_makeLinks 21 = .ok (.iload_n 1, 1) := by decide +kernel
theorem dX4_makeLinks_22 : decode cX4_makeLinks 22 = .ok (.iaload, 1) := by decide +kernel
theorem dX4_makeLinks_23 : decode cX4_makeLinks 23 = .ok (.ifCond .ne 21, 3) := by decide +kernel
theorem dX4_makeLinks_26 : decode cX4_makeLinks 26 = .ok (.iload_n 3, 1) := by decide +kernel
theorem dX4_makeLinks_27 : decode cX4_makeLinks 27 = .ok (.aload_n 0, 1) := by decide +kernel
theorem dX4_makeLinks_28 : decode cX4_makeLinks 28 = .ok (.getfield 22, 3) := by decide +kernel
theorem dX4_makeLinks_31 : decode cX4_makeLinks 31 = .ok (.iload_n 1, 1) := by decide +kernel
theorem dX4_makeLinks_32 : decode cX4_makeLinks 32 = .ok (.iaload, 1) := by decide +kernel
theorem dX4_makeLinks_33 : decode cX4_makeLinks 33 = .ok (.if_icmp .ne 7, 3) := by decide +kernel
theorem dX4_makeLinks_36 : decode cX4_makeLinks 36 = .ok (.iconst 1, 1) := by decide +kernel
theorem dX4_makeLinks_37 : decode cX4_makeLinks 37 = .ok (.goto 32, 3) := by decide +kernel
theorem dX4_makeLinks_40 : decode cX4_makeLinks 40 = .ok (.iconst 0, 1) := by decide +kernel
theorem dX4_makeLinks_41 : decode cX4_makeLinks 41 = .ok (.goto 28, 3) := by decide +kernel
theorem dX4_makeLinks_44 : decode cX4_makeLinks 44 = .ok (.iload_n 3, 1) := by decide +kernel
theorem dX4_makeLinks_45 : decode cX4_makeLinks 45 = .ok (.aload_n 0, 1) := by decide +kernel
theorem dX4_makeLinks_46 : decode cX4_makeLinks 46 = .ok (.getfield 22, 3) := by decide +kernel
theorem dX4_makeLinks_49 : decode cX4_makeLinks 49 = .ok (.iload_n 1, 1) := by decide +kernel
theorem dX4_makeLinks_50 : decode cX4_makeLinks 50 = .ok (.iaload, 1) := by decide +kernel
theorem dX4_makeLinks_51 : decode cX4_makeLinks 51 = .ok (.if_icmp .eq 17, 3) := by decide +kernel
theorem dX4_makeLinks_54 : decode cX4_makeLinks 54 = .ok (.iload_n 3, 1) := by decide +kernel
theorem dX4_makeLinks_55 : decode cX4_makeLinks 55 = .ok (.aload_n 0, 1) := by decide +kernel
theorem dX4_makeLinks_56 : decode cX4_makeLinks 56 = .ok (.getfield 25, 3) := by decide +kernel
theorem dX4_makeLinks_59 : decode cX4_makeLinks 59 = .ok (.iload_n 1, 1) := by decide +kernel
theorem dX4_makeLinks_60 : decode cX4_makeLinks 60 = .ok (.iaload, 1) := by decide +kernel
theorem dX4_makeLinks_61 : decode cX4_makeLinks 61 = .ok (.if_icmp .eq 7, 3) := by decide +kernel
theorem dX4_makeLinks_64 : decode cX4_makeLinks 64 = .ok (.iconst 1, 1) := by decide +kernel
theorem dX4_makeLinks_65 : decode cX4_makeLinks 65 = .ok (.goto 4, 3) := by decide +kernel
theorem dX4_makeLinks_68 : decode cX4_makeLinks 68 = .ok (.iconst 0, 1) := by decide +kernel
theorem dX4_makeLinks_69 : decode cX4_makeLinks 69 = .ok (.istore 4, 2) := by decide +kernel
theorem dX4_makeLinks_71 : decode cX4_makeLinks 71 = .ok (.iload 4, 2) := by decide +kernel
theorem dX4_makeLinks_73 : decode cX4_makeLinks 73 = .ok (.ifCond .eq 40, 3) := by decide +kernel
theorem dX4_makeLinks_76 : decode cX4_makeLinks 76 = .ok (.aload_n 0, 1) := by decide +kernel
theorem dX4_makeLinks_77 : decode cX4_makeLinks 77 = .ok (.iload_n 1, 1) := by decide +kernel
theorem dX4_makeLinks_78 : decode cX4_makeLinks 78 = .ok (.aload_n 0, 1) := by decide +kernel
theorem dX4_makeLinks_79 : decode cX4_makeLinks 79 = .ok (.getfield 7, 3) := by decide +kernel
theorem dX4_makeLinks_82 : decode cX4_makeLinks 82 = .ok (.iload_n 2, 1) := by decide +kernel
theorem dX4_makeLinks_83 : decode cX4_makeLinks 83 = .ok (.iaload, 1) := by decide +kernel
theorem dX4_makeLinks_84 : decode cX4_makeLinks 84 = .ok (.aload_n 0, 1) := by decide +kernel
theorem dX4_makeLinks_85 : decode cX4_makeLinks 85 = .ok (.getfield 16, 3) := by decide +kernel
theorem dX4_makeLinks_88 : decode cX4_makeLinks 88 = .ok (.iload_n 2, 1) := by decide +kernel
theorem dX4_makeLinks_89 : decode cX4_makeLinks 89 = .ok (.iaload, 1) := by decide +kernel
theorem dX4_makeLinks_90 : decode cX4_makeLinks 90 = .ok (.aload_n 0, 1) := by decide +kernel
theorem dX4_makeLinks_91 : decode cX4_makeLinks 91 = .ok (.iload_n 1, 1) := by decide +kernel
theorem dX4_makeLinks_92 : decode cX4_makeLinks 92 = .ok (.aload_n 0, 1) := by decide +kernel
theorem dX4_makeLinks_93 : decode cX4_makeLinks 93 = .ok (.getfield 7, 3) := by decide +kernel
theorem dX4_makeLinks_96 : decode cX4_makeLinks 96 = .ok (.iload_n 2, 1) := by decide +kernel
theorem dX4_makeLinks_97 : decode cX4_makeLinks 97 = .ok (.iaload, 1) := by decide +kernel
theorem dX4_makeLinks_98 : decode cX4_makeLinks 98 = .ok (.aload_n 0, 1) := by decide +kernel
theorem dX4_makeLinks_99 : decode cX4_makeLinks 99 = .ok (.getfield 16, 3) := by decide +kernel
theorem dX4_makeLinks_102 : decode cX4_makeLinks 102 = .ok (.iload_n 2, 1) := by decide +kernel
theorem dX4_makeLinks_103 : decode cX4_makeLinks 103 = .ok (.iaload, 1) := by decide +kernel
theorem dX4_makeLinks_104 : decode cX4_makeLinks 104 = .ok (.invokevirtual 84, 3) := by decide +kernel
theorem dX4_makeLinks_107 : decode cX4_makeLinks 107 = .ok (.i2l, 1) := by decide +kernel
theorem dX4_makeLinks_108 : decode cX4_makeLinks 108 = .ok (.lconst 1, 1) := by decide +kernel
theorem dX4_makeLinks_109 : decode cX4_makeLinks 109 = .ok (.ladd, 1) := by decide +kernel
theorem dX4_makeLinks_110 : decode cX4_makeLinks 110 = .ok (.invokevirtual 87, 3) := by decide +kernel
theorem dX4_makeLinks_113 : decode cX4_makeLinks 113 = .ok (.iinc 2 1, 3) := by decide +kernel
theorem dX4_makeLinks_116 : decode cX4_makeLinks 116 = .ok (.goto (-114), 3) := by decide +kernel
theorem dX4_makeLinks_119 : decode cX4_makeLinks 119 = .ok (.return_, 1) := by decide +kernel
theorem dX4_joined_0 : decode cX4_joined 0 = .ok (.aload_n 0, 1) := by decide +kernel
theorem dX4_joined_1 : decode cX4_joined 1 = .ok (.getfield 22, 3) := by decide +kernel
theorem dX4_joined_4 : decode cX4_joined 4 = .ok (.iload_n 1, 1) := by decide +kernel
theorem dX4_joined_5 : decode cX4_joined 5 = .ok (.iaload, 1) := by decide +kernel
theorem dX4_joined_6 : decode cX4_joined 6 = .ok (.istore 4, 2) := by decide +kernel
theorem dX4_joined_8 : decode cX4_joined 8 = .ok (.aload_n 0, 1) := by decide +kernel
theorem dX4_joined_9 : decode cX4_joined 9 = .ok (.getfield 25, 3) := by decide +kernel
theorem dX4_joined_12 : decode cX4_joined 12 = .ok (.iload_n 1, 1) := by decide +kernel
theorem dX4_joined_13 : decode cX4_joined 13 = .ok (.iaload, 1) := by decide +kernel
theorem dX4_joined_14 : decode cX4_joined 14 = .ok (.istore 5, 2) := by decide +kernel
theorem dX4_joined_16 : decode cX4_joined 16 = .ok (.aload_n 0, 1) := by decide +kernel
theorem dX4_joined_17 : decode cX4_joined 17 = .ok (.getfield 19, 3) := by decide +kernel
theorem dX4_joined_20 : decode cX4_joined 20 = .ok (.iload_n 1, 1) := by decide +kernel
theorem dX4_joined_21 : decode cX4_joined 21 = .ok (.iaload, 1) := by decide +kernel
theorem dX4_joined_22 : decode cX4_joined 22 = .ok (.iconst 1, 1) := by decide +kernel
theorem dX4_joined_23 : decode cX4_joined 23 = .ok (.if_icmp .ne 13, 3) := by decide +kernel
theorem dX4_joined_26 : decode cX4_joined 26 = .ok (.aload_n 0, 1) := by decide +kernel
theorem dX4_joined_27 : decode cX4_joined 27 = .ok (.iload 4, 2) := by decide +kernel
theorem dX4_joined_29 : decode cX4_joined 29 = .ok (.iload_n 3, 1) := by decide +kernel
theorem dX4_joined_30 : decode cX4_joined 30 = .ok (.iload_n 2, 1) := by decide +kernel
theorem dX4_joined_31 : decode cX4_joined 31 = .ok (.invokevirtual 84, 3) := by decide +kernel
theorem dX4_joined_34 : decode cX4_joined 34 = .ok (.i2l, 1) := by decide +kernel
theorem dX4_joined_35 : decode cX4_joined 35 = .ok (.lreturn, 1) := by decide +kernel
theorem dX4_joined_36 : decode cX4_joined 36 = .ok (.aload_n 0, 1) := by decide +kernel
theorem dX4_joined_37 : decode cX4_joined 37 = .ok (.getfield 19, 3) := by decide +kernel
theorem dX4_joined_40 : decode cX4_joined 40 = .ok (.iload_n 1, 1) := by decide +kernel
theorem dX4_joined_41 : decode cX4_joined 41 = .ok (.iaload, 1) := by decide +kernel
theorem dX4_joined_42 : decode cX4_joined 42 = .ok (.iconst 3, 1) := by decide +kernel
theorem dX4_joined_43 : decode cX4_joined 43 = .ok (.if_icmp .ne 23, 3) := by decide +kernel
theorem dX4_joined_46 : decode cX4_joined 46 = .ok (.aload_n 0, 1) := by decide +kernel
theorem dX4_joined_47 : decode cX4_joined 47 = .ok (.iload 4, 2) := by decide +kernel
theorem dX4_joined_49 : decode cX4_joined 49 = .ok (.iload_n 2, 1) := by decide +kernel
theorem dX4_joined_50 : decode cX4_joined 50 = .ok (.iload_n 3, 1) := by decide +kernel
theorem dX4_joined_51 : decode cX4_joined 51 = .ok (.invokevirtual 84, 3) := by decide +kernel
theorem dX4_joined_54 : decode cX4_joined 54 = .ok (.i2l, 1) := by decide +kernel
theorem dX4_joined_55 : decode cX4_joined 55 = .ok (.aload_n 0, 1) := by decide +kernel
theorem dX4_joined_56 : decode cX4_joined 56 = .ok (.iload 5, 2) := by decide +kernel
theorem dX4_joined_58 : decode cX4_joined 58 = .ok (.iload_n 2, 1) := by decide +kernel
theorem dX4_joined_59 : decode cX4_joined 59 = .ok (.iload_n 3, 1) := by decide +kernel
theorem dX4_joined_60 : decode cX4_joined 60 = .ok (.invokevirtual 84, 3) := by decide +kernel
theorem dX4_joined_63 : decode cX4_joined 63 = .ok (.i2l, 1) := by decide +kernel
theorem dX4_joined_64 : decode cX4_joined 64 = .ok (.ladd, 1) := by decide +kernel
theorem dX4_joined_65 : decode cX4_joined 65 = .ok (.lreturn, 1) := by decide +kernel
theorem dX4_joined_66 : decode cX4_joined 66 = .ok (.aload_n 0, 1) := by decide +kernel
theorem dX4_joined_67 : decode cX4_joined 67 = .ok (.getfield 19, 3) := by decide +kernel
theorem dX4_joined_70 : decode cX4_joined 70 = .ok (.iload_n 1, 1) := by decide +kernel
theorem dX4_joined_71 : decode cX4_joined 71 = .ok (.iaload, 1) := by decide +kernel
theorem dX4_joined_72 : decode cX4_joined 72 = .ok (.bipush 6, 2) := by decide +kernel
theorem dX4_joined_74 : decode cX4_joined 74 = .ok (.if_icmp .ne 34, 3) := by decide +kernel
theorem dX4_joined_77 : decode cX4_joined 77 = .ok (.iload_n 2, 1) := by decide +kernel
theorem dX4_joined_78 : decode cX4_joined 78 = .ok (.iload_n 3, 1) := by decide +kernel
theorem dX4_joined_79 : decode cX4_joined 79 = .ok (.if_icmp .ne 12, 3) := by decide +kernel
theorem dX4_joined_82 : decode cX4_joined 82 = .ok (.aload_n 0, 1) := by decide +kernel
theorem dX4_joined_83 : decode cX4_joined 83 = .ok (.getfield 40, 3) := by decide +kernel
theorem dX4_joined_86 : decode cX4_joined 86 = .ok (.iload_n 2, 1) := by decide +kernel
theorem dX4_joined_87 : decode cX4_joined 87 = .ok (.baload, 1) := by decide +kernel
theorem dX4_joined_88 : decode cX4_joined 88 = .ok (.ifCond .ne 14, 3) := by decide +kernel
theorem dX4_joined_91 : decode cX4_joined 91 = .ok (.aload_n 0, 1) := by decide +kernel
theorem dX4_joined_92 : decode cX4_joined 92 = .ok (.iload 4, 2) := by decide +kernel
theorem dX4_joined_94 : decode cX4_joined 94 = .ok (.iload_n 2, 1) := by decide +kernel
theorem dX4_joined_95 : decode cX4_joined 95 = .ok (.iload_n 3, 1) := by decide +kernel
theorem dX4_joined_96 : decode cX4_joined 96 = .ok (.invokevirtual 84, 3) := by decide +kernel
theorem dX4_joined_99 : decode cX4_joined 99 = .ok (.ifCond .le 7, 3) := by decide +kernel
theorem dX4_joined_102 : decode cX4_joined 102 = .ok (.lconst 1, 1) := by decide +kernel
theorem dX4_joined_103 : decode cX4_joined 103 = .ok (.goto 4, 3) := by decide +kernel
theorem dX4_joined_106 : decode cX4_joined 106 = .ok (.lconst 0, 1) := by decide +kernel
theorem dX4_joined_107 : decode cX4_joined 107 = .ok (.lreturn, 1) := by decide +kernel
theorem dX4_joined_108 : decode cX4_joined 108 = .ok (.lconst 0, 1) := by decide +kernel
theorem dX4_joined_109 : decode cX4_joined 109 = .ok (.lstore 6, 2) := by decide +kernel
theorem dX4_joined_111 : decode cX4_joined 111 = .ok (.iconst 0, 1) := by decide +kernel
theorem dX4_joined_112 : decode cX4_joined 112 = .ok (.istore 8, 2) := by decide +kernel
theorem dX4_joined_114 : decode cX4_joined 114 = .ok (.iload 8, 2) := by decide +kernel
theorem dX4_joined_116 : decode cX4_joined 116 = .ok (.bipush 32, 2) := by decide +kernel
theorem dX4_joined_118 : decode cX4_joined 118 = .ok (.if_icmp .ge 35, 3) := by decide +kernel
theorem dX4_joined_121 : decode cX4_joined 121 = .ok (.lload 6, 2) := by decide +kernel
theorem dX4_joined_123 : decode cX4_joined 123 = .ok (.aload_n 0, 1) := by decide +kernel
theorem dX4_joined_124 : decode cX4_joined 124 = .ok (.iload 4, 2) := by decide +kernel
theorem dX4_joined_126 : decode cX4_joined 126 = .ok (.iload_n 2, 1) := by decide +kernel
theorem dX4_joined_127 : decode cX4_joined 127 = .ok (.iload 8, 2) := by decide +kernel
theorem dX4_joined_129 : decode cX4_joined 129 = .ok (.invokevirtual 84, 3) := by decide +kernel
theorem dX4_joined_132 : decode cX4_joined 132 = .ok (.i2l, 1) := by decide +kernel
theorem dX4_joined_133 : decode cX4_joined 133 = .ok (.aload_n 0, 1) := by decide +kernel
theorem dX4_joined_134 : decode cX4_joined 134 = .ok (.iload 5, 2) := by decide +kernel
theorem dX4_joined_136 : decode cX4_joined 136 = .ok (.iload 8, 2) := by decide +kernel
theorem dX4_joined_138 : decode cX4_joined 138 = .ok (.iload_n 3, 1) := by decide +kernel
theorem dX4_joined_139 : decode cX4_joined 139 = .ok (.invokevirtual 84, 3) := by decide +kernel
theorem dX4_joined_142 : decode cX4_joined 142 = .ok (.i2l, 1) := by decide +kernel
theorem dX4_joined_143 : decode cX4_joined 143 = .ok (.lmul, 1) := by decide +kernel
theorem dX4_joined_144 : decode cX4_joined 144 = .ok (.ladd, 1) := by decide +kernel
theorem dX4_joined_145 : decode cX4_joined 145 = .ok (.lstore 6, 2) := by decide +kernel
theorem dX4_joined_147 : decode cX4_joined 147 = .ok (.iinc 8 1, 3) := by decide +kernel
theorem dX4_joined_150 : decode cX4_joined 150 = .ok (.goto (-36), 3) := by decide +kernel
theorem dX4_joined_153 : decode cX4_joined 153 = .ok (.lload 6, 2) := by decide +kernel
theorem dX4_joined_155 : decode cX4_joined 155 = .ok (.lreturn, 1) := by decide +kernel
theorem dX4_walk_0 : decode cX4_walk 0 = .ok (.iconst 0, 1) := by decide +kernel
theorem dX4_walk_1 : decode cX4_walk 1 = .ok (.istore_n 3, 1) := by decide +kernel
theorem dX4_walk_2 : decode cX4_walk 2 = .ok (.iconst 0, 1) := by decide +kernel
theorem dX4_walk_3 : decode cX4_walk 3 = .ok (.istore 4, 2) := by decide +kernel
theorem dX4_walk_5 : decode cX4_walk 5 = .ok (.iload 4, 2) := by decide +kernel
theorem dX4_walk_7 : decode cX4_walk 7 = .ok (.bipush 32, 2) := by decide +kernel
theorem dX4_walk_9 : decode cX4_walk 9 = .ok (.if_icmp .ge 47, 3) := by decide +kernel
theorem dX4_walk_12 : decode cX4_walk 12 = .ok (.aload_n 0, 1) := by decide +kernel
theorem dX4_walk_13 : decode cX4_walk 13 = .ok (.getfield 43, 3) := by decide +kernel
theorem dX4_walk_16 : decode cX4_walk 16 = .ok (.iload 4, 2) := by decide +kernel
theorem dX4_walk_18 : decode cX4_walk 18 = .ok (.iconst (-1), 1) := by decide +kernel
theorem dX4_walk_19 : decode cX4_walk 19 = .ok (.iastore, 1) := by decide +kernel
theorem dX4_walk_20 : decode cX4_walk 20 = .ok (.aload_n 0, 1) := by decide +kernel
theorem dX4_walk_21 : decode cX4_walk 21 = .ok (.iload_n 1, 1) := by decide +kernel
theorem dX4_walk_22 : decode cX4_walk 22 = .ok (.iload_n 2, 1) := by decide +kernel
theorem dX4_walk_23 : decode cX4_walk 23 = .ok (.iload 4, 2) := by decide +kernel
theorem dX4_walk_25 : decode cX4_walk 25 = .ok (.invokevirtual 84, 3) := by decide +kernel
theorem dX4_walk_28 : decode cX4_walk 28 = .ok (.ifCond .le 22, 3) := by decide +kernel
theorem dX4_walk_31 : decode cX4_walk 31 = .ok (.aload_n 0, 1) := by decide +kernel
theorem dX4_walk_32 : decode cX4_walk 32 = .ok (.getfield 43, 3) := by decide +kernel
theorem dX4_walk_35 : decode cX4_walk 35 = .ok (.iload 4, 2) := by decide +kernel
theorem dX4_walk_37 : decode cX4_walk 37 = .ok (.iconst 1, 1) := by decide +kernel
theorem dX4_walk_38 : decode cX4_walk 38 = .ok (.iastore, 1) := by decide +kernel
theorem dX4_walk_39 : decode cX4_walk 39 = .ok (.aload_n 0, 1) := by decide +kernel
theorem dX4_walk_40 : decode cX4_walk 40 = .ok (.getfield 46, 3) := by decide +kernel
theorem dX4_walk_43 : decode cX4_walk 43 = .ok (.iload_n 3, 1) := by decide +kernel
theorem dX4_walk_44 : decode cX4_walk 44 = .ok (.iload 4, 2) := by decide +kernel
theorem dX4_walk_46 : decode cX4_walk 46 = .ok (.iastore, 1) := by decide +kernel
theorem dX4_walk_47 : decode cX4_walk 47 = .ok (.iinc 3 1, 3) := by decide +kernel
theorem dX4_walk_50 : decode cX4_walk 50 = .ok (.iinc 4 1, 3) := by decide +kernel
theorem dX4_walk_53 : decode cX4_walk 53 = .ok (.goto (-48), 3) := by decide +kernel
theorem dX4_walk_56 : decode cX4_walk 56 = .ok (.iconst 0, 1) := by decide +kernel
theorem dX4_walk_57 : decode cX4_walk 57 = .ok (.istore 4, 2) := by decide +kernel
theorem dX4_walk_59 : decode cX4_walk 59 = .ok (.iload 4, 2) := by decide +kernel
theorem dX4_walk_61 : decode cX4_walk 61 = .ok (.iload_n 3, 1) := by decide +kernel
theorem dX4_walk_62 : decode cX4_walk 62 = .ok (.if_icmp .ge 83, 3) := by decide +kernel
theorem dX4_walk_65 : decode cX4_walk 65 = .ok (.aload_n 0, 1) := by decide +kernel
theorem dX4_walk_66 : decode cX4_walk 66 = .ok (.getfield 46, 3) := by decide +kernel
theorem dX4_walk_69 : decode cX4_walk 69 = .ok (.iload 4, 2) := by decide +kernel
theorem dX4_walk_71 : decode cX4_walk 71 = .ok (.iaload, 1) := by decide +kernel
theorem dX4_walk_72 : decode cX4_walk 72 = .ok (.istore 5, 2) := by decide +kernel
theorem dX4_walk_74 : decode cX4_walk 74 = .ok (.iconst 0, 1) := by decide +kernel
theorem dX4_walk_75 : decode cX4_walk 75 = .ok (.istore 6, 2) := by decide +kernel
theorem dX4_walk_77 : decode cX4_walk 77 = .ok (.iload 6, 2) := by decide +kernel
theorem dX4_walk_79 : decode cX4_walk 79 = .ok (.bipush 32, 2) := by decide +kernel
theorem dX4_walk_81 : decode cX4_walk 81 = .ok (.if_icmp .ge 58, 3) := by decide +kernel
theorem dX4_walk_84 : decode cX4_walk 84 = .ok (.aload_n 0, 1) := by decide +kernel
theorem dX4_walk_85 : decode cX4_walk 85 = .ok (.getfield 43, 3) := by decide +kernel
theorem dX4_walk_88 : decode cX4_walk 88 = .ok (.iload 6, 2) := by decide +kernel
theorem dX4_walk_90 : decode cX4_walk 90 = .ok (.iaload, 1) := by decide +kernel
theorem dX4_walk_91 : decode cX4_walk 91 = .ok (.ifCond .ge 42, 3) := by decide +kernel
theorem dX4_walk_94 : decode cX4_walk 94 = .ok (.aload_n 0, 1) := by decide +kernel
theorem dX4_walk_95 : decode cX4_walk 95 = .ok (.iload_n 1, 1) := by decide +kernel
theorem dX4_walk_96 : decode cX4_walk 96 = .ok (.iload 5, 2) := by decide +kernel
theorem dX4_walk_98 : decode cX4_walk 98 = .ok (.iload 6, 2) := by decide +kernel
theorem dX4_walk_100 : decode cX4_walk 100 = .ok (.invokevirtual 84, 3) := by decide +kernel
theorem dX4_walk_103 : decode cX4_walk 103 = .ok (.ifCond .le 30, 3) := by decide +kernel
theorem dX4_walk_106 : decode cX4_walk 106 = .ok (.aload_n 0, 1) := by decide +kernel
theorem dX4_walk_107 : decode cX4_walk 107 = .ok (.getfield 43, 3) := by decide +kernel
theorem dX4_walk_110 : decode cX4_walk 110 = .ok (.iload 6, 2) := by decide +kernel
theorem dX4_walk_112 : decode cX4_walk 112 = .ok (.aload_n 0, 1) := by decide +kernel
theorem dX4_walk_113 : decode cX4_walk 113 = .ok (.getfield 43, 3) := by decide +kernel
theorem dX4_walk_116 : decode cX4_walk 116 = .ok (.iload 5, 2) := by decide +kernel
theorem dX4_walk_118 : decode cX4_walk 118 = .ok (.iaload, 1) := by decide +kernel
theorem dX4_walk_119 : decode cX4_walk 119 = .ok (.iconst 1, 1) := by decide +kernel
theorem dX4_walk_120 : decode cX4_walk 120 = .ok (.iadd, 1) := by decide +kernel
theorem dX4_walk_121 : decode cX4_walk 121 = .ok (.iastore, 1) := by decide +kernel
theorem dX4_walk_122 : decode cX4_walk 122 = .ok (.aload_n 0, 1) := by decide +kernel
theorem dX4_walk_123 : decode cX4_walk 123 = .ok (.getfield 46, 3) := by decide +kernel
theorem dX4_walk_126 : decode cX4_walk 126 = .ok (.iload_n 3, 1) := by decide +kernel
theorem dX4_walk_127 : decode cX4_walk 127 = .ok (.iload 6, 2) := by decide +kernel
theorem dX4_walk_129 : decode cX4_walk 129 = .ok (.iastore, 1) := by decide +kernel
theorem dX4_walk_130 : decode cX4_walk 130 = .ok (.iinc 3 1, 3) := by decide +kernel
theorem dX4_walk_133 : decode cX4_walk 133 = .ok (.iinc 6 1, 3) := by decide +kernel
theorem dX4_walk_136 : decode cX4_walk 136 = .ok (.goto (-59), 3) := by decide +kernel
theorem dX4_walk_139 : decode cX4_walk 139 = .ok (.iinc 4 1, 3) := by decide +kernel
theorem dX4_walk_142 : decode cX4_walk 142 = .ok (.goto (-83), 3) := by decide +kernel
theorem dX4_walk_145 : decode cX4_walk 145 = .ok (.return_, 1) := by decide +kernel
theorem dX4_makeWalks_0 : decode cX4_makeWalks 0 = .ok (.iconst 0, 1) := by decide +kernel
theorem dX4_makeWalks_1 : decode cX4_makeWalks 1 = .ok (.istore_n 2, 1) := by decide +kernel
theorem dX4_makeWalks_2 : decode cX4_makeWalks 2 = .ok (.iconst 0, 1) := by decide +kernel
theorem dX4_makeWalks_3 : decode cX4_makeWalks 3 = .ok (.istore_n 3, 1) := by decide +kernel
theorem dX4_makeWalks_4 : decode cX4_makeWalks 4 = .ok (.iload_n 3, 1) := by decide +kernel
theorem dX4_makeWalks_5 : decode cX4_makeWalks 5 = .ok (.bipush 32, 2) := by decide +kernel
theorem dX4_makeWalks_7 : decode cX4_makeWalks 7 = .ok (.if_icmp .ge 109, 3) := by decide +kernel
theorem dX4_makeWalks_10 : decode cX4_makeWalks 10 = .ok (.aload_n 0, 1) := by decide +kernel
theorem dX4_makeWalks_11 : decode cX4_makeWalks 11 = .ok (.aload_n 0, 1) := by decide +kernel
theorem dX4_makeWalks_12 : decode cX4_makeWalks 12 = .ok (.getfield 22, 3) := by decide +kernel
theorem dX4_makeWalks_15 : decode cX4_makeWalks 15 = .ok (.iload_n 1, 1) := by decide +kernel
theorem dX4_makeWalks_16 : decode cX4_makeWalks 16 = .ok (.iaload, 1) := by decide +kernel
theorem dX4_makeWalks_17 : decode cX4_makeWalks 17 = .ok (.iload_n 3, 1) := by decide +kernel
theorem dX4_makeWalks_18 : decode cX4_makeWalks 18 = .ok (.invokevirtual 91, 3) := by decide +kernel
theorem dX4_makeWalks_21 : decode cX4_makeWalks 21 = .ok (.iconst 0, 1) := by decide +kernel
theorem dX4_makeWalks_22 : decode cX4_makeWalks 22 = .ok (.istore 4, 2) := by decide +kernel
theorem dX4_makeWalks_24 : decode cX4_makeWalks 24 = .ok (.iload 4, 2) := by decide +kernel
theorem dX4_makeWalks_26 : decode cX4_makeWalks 26 = .ok (.bipush 32, 2) := by decide +kernel
theorem dX4_makeWalks_28 : decode cX4_makeWalks 28 = .ok (.if_icmp .ge 82, 3) := by decide +kernel
theorem dX4_makeWalks_31 : decode cX4_makeWalks 31 = .ok (.aload_n 0, 1) := by decide +kernel
theorem dX4_makeWalks_32 : decode cX4_makeWalks 32 = .ok (.getfield 43, 3) := by decide +kernel
theorem dX4_makeWalks_35 : decode cX4_makeWalks 35 = .ok (.iload 4, 2) := by decide +kernel
theorem dX4_makeWalks_37 : decode cX4_makeWalks 37 = .ok (.iaload, 1) := by decide +kernel
theorem dX4_makeWalks_38 : decode cX4_makeWalks 38 = .ok (.ifCond .gt 28, 3) := by decide +kernel
theorem dX4_makeWalks_41 : decode cX4_makeWalks 41 = .ok (.aload_n 0, 1) := by decide +kernel
theorem dX4_makeWalks_42 : decode cX4_makeWalks 42 = .ok (.getfield 19, 3) := by decide +kernel
theorem dX4_makeWalks_45 : decode cX4_makeWalks 45 = .ok (.iload_n 1, 1) := by decide +kernel
theorem dX4_makeWalks_46 : decode cX4_makeWalks 46 = .ok (.iaload, 1) := by decide +kernel
theorem dX4_makeWalks_47 : decode cX4_makeWalks 47 = .ok (.iconst 4, 1) := by decide +kernel
theorem dX4_makeWalks_48 : decode cX4_makeWalks 48 = .ok (.if_icmp .ne 22, 3) := by decide +kernel
theorem dX4_makeWalks_51 : decode cX4_makeWalks 51 = .ok (.iload_n 3, 1) := by decide +kernel
theorem dX4_makeWalks_52 : decode cX4_makeWalks 52 = .ok (.iload 4, 2) := by decide +kernel
theorem dX4_makeWalks_54 : decode cX4_makeWalks 54 = .ok (.if_icmp .ne 16, 3) := by decide +kernel
theorem dX4_makeWalks_57 : decode cX4_makeWalks 57 = .ok (.aload_n 0, 1) := by decide +kernel
theorem dX4_makeWalks_58 : decode cX4_makeWalks 58 = .ok (.getfield 40, 3) := by decide +kernel
theorem dX4_makeWalks_61 : decode cX4_makeWalks 61 = .ok (.iload_n 3, 1) := by decide +kernel
theorem dX4_makeWalks_62 : decode cX4_makeWalks 62 = .ok (.baload, 1) := by decide +kernel
theorem dX4_makeWalks_63 : decode cX4_makeWalks 63 = .ok (.ifCond .eq 7, 3) := by decide +kernel
theorem dX4_makeWalks_66 : decode cX4_makeWalks 66 = .ok (.iconst 1, 1) := by decide +kernel
theorem dX4_makeWalks_67 : decode cX4_makeWalks 67 = .ok (.goto 4, 3) := by decide +kernel
theorem dX4_makeWalks_70 : decode cX4_makeWalks 70 = .ok (.iconst 0, 1) := by decide +kernel
theorem dX4_makeWalks_71 : decode cX4_makeWalks 71 = .ok (.istore 5, 2) := by decide +kernel
theorem dX4_makeWalks_73 : decode cX4_makeWalks 73 = .ok (.aload_n 0, 1) := by decide +kernel
theorem dX4_makeWalks_74 : decode cX4_makeWalks 74 = .ok (.iload_n 1, 1) := by decide +kernel
theorem dX4_makeWalks_75 : decode cX4_makeWalks 75 = .ok (.iload_n 3, 1) := by decide +kernel
theorem dX4_makeWalks_76 : decode cX4_makeWalks 76 = .ok (.iload 4, 2) := by decide +kernel
theorem dX4_makeWalks_78 : decode cX4_makeWalks 78 = .ok (.iload 5, 2) := by decide +kernel
theorem dX4_makeWalks_80 : decode cX4_makeWalks 80 = .ok (.ifCond .eq 7, 3) := by decide +kernel
theorem dX4_makeWalks_83 : decode cX4_makeWalks 83 = .ok (.lconst 1, 1) := by decide +kernel
theorem dX4_makeWalks_84 : decode cX4_makeWalks 84 = .ok (.goto 4, 3) := by decide +kernel
theorem dX4_makeWalks_87 : decode cX4_makeWalks 87 = .ok (.lconst 0, 1) := by decide +kernel
theorem dX4_makeWalks_88 : decode cX4_makeWalks 88 = .ok (.invokevirtual 87, 3) := by decide +kernel
theorem dX4_makeWalks_91 : decode cX4_makeWalks 91 = .ok (.iload 5, 2) := by decide +kernel
theorem dX4_makeWalks_93 : decode cX4_makeWalks 93 = .ok (.ifCond .eq 9, 3) := by decide +kernel
theorem dX4_makeWalks_96 : decode cX4_makeWalks 96 = .ok (.iload_n 2, 1) := by decide +kernel
theorem dX4_makeWalks_97 : decode cX4_makeWalks 97 = .ok (.iconst 1, 1) := by decide +kernel
theorem dX4_makeWalks_98 : decode cX4_makeWalks 98 = .ok (.iadd, 1) := by decide +kernel
theorem dX4_makeWalks_99 : decode cX4_makeWalks 99 = .ok (.goto 4, 3) := by decide +kernel
theorem dX4_makeWalks_102 : decode cX4_makeWalks 102 = .ok (.iload_n 2, 1) := by decide +kernel
theorem dX4_makeWalks_103 : decode cX4_makeWalks 103 = .ok (.istore_n 2, 1) := by decide +kernel
theorem dX4_makeWalks_104 : decode cX4_makeWalks 104 = .ok (.iinc 4 1, 3) := by decide +kernel
theorem dX4_makeWalks_107 : decode cX4_makeWalks 107 = .ok (.goto (-83), 3) := by decide +kernel
theorem dX4_makeWalks_110 : decode cX4_makeWalks 110 = .ok (.iinc 3 1, 3) := by decide +kernel
theorem dX4_makeWalks_113 : decode cX4_makeWalks 113 = .ok (.goto (-109), 3) := by decide +kernel
theorem dX4_makeWalks_116 : decode cX4_makeWalks 116 = .ok (.aload_n 0, 1) := by decide +kernel
theorem dX4_makeWalks_117 : decode cX4_makeWalks 117 = .ok (.aload_n 0, 1) := by decide +kernel
theorem dX4_makeWalks_118 : decode cX4_makeWalks 118 = .ok (.getfield 95, 3) := by decide +kernel
theorem dX4_makeWalks_121 : decode cX4_makeWalks 121 = .ok (.ifCond .ne 11, 3) := by decide +kernel
theorem dX4_makeWalks_124 : decode cX4_makeWalks 124 = .ok (.iload_n 2, 1) := by decide +kernel
theorem dX4_makeWalks_125 : decode cX4_makeWalks 125 = .ok (.aload_n 0, 1) := by decide +kernel
theorem dX4_makeWalks_126 : decode cX4_makeWalks 126 = .ok (.getfield 28, 3) := by decide +kernel
theorem dX4_makeWalks_129 : decode cX4_makeWalks 129 = .ok (.if_icmp .le 7, 3) := by decide +kernel
theorem dX4_makeWalks_132 : decode cX4_makeWalks 132 = .ok (.iconst 1, 1) := by decide +kernel
theorem dX4_makeWalks_133 : decode cX4_makeWalks 133 = .ok (.goto 4, 3) := by decide +kernel
theorem dX4_makeWalks_136 : decode cX4_makeWalks 136 = .ok (.iconst 0, 1) := by decide +kernel
theorem dX4_makeWalks_137 : decode cX4_makeWalks 137 = .ok (.putfield 95, 3) := by decide +kernel
theorem dX4_makeWalks_140 : decode cX4_makeWalks 140 = .ok (.return_, 1) := by decide +kernel
theorem dX4_makeTable_0 : decode cX4_makeTable 0 = .ok (.iconst 0, 1) := by decide +kernel
theorem dX4_makeTable_1 : decode cX4_makeTable 1 = .ok (.istore_n 2, 1) := by decide +kernel
theorem dX4_makeTable_2 : decode cX4_makeTable 2 = .ok (.iload_n 2, 1) := by decide +kernel
theorem dX4_makeTable_3 : decode cX4_makeTable 3 = .ok (.sipush 1024, 3) := by decide +kernel
theorem dX4_makeTable_6 : decode cX4_makeTable 6 = .ok (.if_icmp .ge 22, 3) := by decide +kernel
theorem dX4_makeTable_9 : decode cX4_makeTable 9 = .ok (.aload_n 0, 1) := by decide +kernel
theorem dX4_makeTable_10 : decode cX4_makeTable 10 = .ok (.getfield 33, 3) := by decide +kernel
theorem dX4_makeTable_13 : decode cX4_makeTable 13 = .ok (.sipush 1024, 3) := by decide +kernel
theorem dX4_makeTable_16 : decode cX4_makeTable 16 = .ok (.iload_n 1, 1) := by decide +kernel
theorem dX4_makeTable_17 : decode cX4_makeTable 17 = .ok (.imul, 1) := by decide +kernel
theorem dX4_makeTable_18 : decode cX4_makeTable 18 = .ok (.iload_n 2, 1) := by decide +kernel
theorem dX4_makeTable_19 : decode cX4_makeTable 19 = .ok (.iadd, 1) := by decide +kernel
theorem dX4_makeTable_20 : decode cX4_makeTable 20 = .ok (.iconst 0, 1) := by decide +kernel
theorem dX4_makeTable_21 : decode cX4_makeTable 21 = .ok (.iastore, 1) := by decide +kernel
theorem dX4_makeTable_22 : decode cX4_makeTable 22 = .ok (.iinc 2 1, 3) := by decide +kernel
theorem dX4_makeTable_25 : decode cX4_makeTable 25 = .ok (.goto (-23), 3) := by decide +kernel
theorem dX4_makeTable_28 : decode cX4_makeTable 28 = .ok (.aload_n 0, 1) := by decide +kernel
theorem dX4_makeTable_29 : decode cX4_makeTable 29 = .ok (.getfield 19, 3) := by decide +kernel
theorem dX4_makeTable_32 : decode cX4_makeTable 32 = .ok (.iload_n 1, 1) := by decide +kernel
theorem dX4_makeTable_33 : decode cX4_makeTable 33 = .ok (.iaload, 1) := by decide +kernel
theorem dX4_makeTable_34 : decode cX4_makeTable 34 = .ok (.ifCond .eq 14, 3) := by decide +kernel
theorem dX4_makeTable_37 : decode cX4_makeTable 37 = .ok (.aload_n 0, 1) := by decide +kernel
theorem dX4_makeTable_38 : decode cX4_makeTable 38 = .ok (.getfield 19, 3) := by decide +kernel
theorem dX4_makeTable_41 : decode cX4_makeTable 41 = .ok (.iload_n 1, 1) := by decide +kernel
theorem dX4_makeTable_42 : decode cX4_makeTable 42 = .ok (.iaload, 1) := by decide +kernel
theorem dX4_makeTable_43 : decode cX4_makeTable 43 = .ok (.bipush 7, 2) := by decide +kernel
theorem dX4_makeTable_45 : decode cX4_makeTable 45 = .ok (.if_icmp .ne 11, 3) := by decide +kernel
theorem dX4_makeTable_48 : decode cX4_makeTable 48 = .ok (.aload_n 0, 1) := by decide +kernel
theorem dX4_makeTable_49 : decode cX4_makeTable 49 = .ok (.iload_n 1, 1) := by decide +kernel
theorem dX4_makeTable_50 : decode cX4_makeTable 50 = .ok (.invokevirtual 99, 3) := by decide +kernel
theorem dX4_makeTable_53 : decode cX4_makeTable 53 = .ok (.goto 73, 3) := by decide +kernel
theorem dX4_makeTable_56 : decode cX4_makeTable 56 = .ok (.aload_n 0, 1) := by decide +kernel
theorem dX4_makeTable_57 : decode cX4_makeTable 57 = .ok (.getfield 19, 3) := by decide +kernel
theorem dX4_makeTable_60 : decode cX4_makeTable 60 = .ok (.iload_n 1, 1) := by decide +kernel
theorem dX4_makeTable_61 : decode cX4_makeTable 61 = .ok (.iaload, 1) := by decide +kernel
theorem dX4_makeTable_62 : decode cX4_makeTable 62 = .ok (.iconst 4, 1) := by decide +kernel
theorem dX4_makeTable_63 : decode cX4_makeTable 63 = .ok (.if_icmp .eq 13, 3) := by decide +kernel
theorem dX4_makeTable_66 : decode cX4_makeTable 66 = .ok (.aload_n 0, 1) := by decide +kernel
theorem dX4_makeTable_67 : decode cX4_makeTable 67 = .ok (.getfield 19, 3) := by decide +kernel
theorem dX4_makeTable_70 : decode cX4_makeTable 70 = .ok (.iload_n 1, 1) := by decide +kernel
theorem dX4_makeTable_71 : decode cX4_makeTable 71 = .ok (.iaload, 1) := by decide +kernel
theorem dX4_makeTable_72 : decode cX4_makeTable 72 = .ok (.iconst 5, 1) := by decide +kernel
theorem dX4_makeTable_73 : decode cX4_makeTable 73 = .ok (.if_icmp .ne 11, 3) := by decide +kernel
theorem dX4_makeTable_76 : decode cX4_makeTable 76 = .ok (.aload_n 0, 1) := by decide +kernel
theorem dX4_makeTable_77 : decode cX4_makeTable 77 = .ok (.iload_n 1, 1) := by decide +kernel
theorem dX4_makeTable_78 : decode cX4_makeTable 78 = .ok (.invokevirtual 103, 3) := by decide +kernel
theorem dX4_makeTable_81 : decode cX4_makeTable 81 = .ok (.goto 45, 3) := by decide +kernel
theorem dX4_makeTable_84 : decode cX4_makeTable 84 = .ok (.iconst 0, 1) := by decide +kernel
theorem dX4_makeTable_85 : decode cX4_makeTable 85 = .ok (.istore_n 2, 1) := by decide +kernel
theorem dX4_makeTable_86 : decode cX4_makeTable 86 = .ok (.iload_n 2, 1) := by decide +kernel
theorem dX4_makeTable_87 : decode cX4_makeTable 87 = .ok (.bipush 32, 2) := by decide +kernel
theorem dX4_makeTable_89 : decode cX4_makeTable 89 = .ok (.if_icmp .ge 37, 3) := by decide +kernel
theorem dX4_makeTable_92 : decode cX4_makeTable 92 = .ok (.iconst 0, 1) := by decide +kernel
theorem dX4_makeTable_93 : decode cX4_makeTable 93 = .ok (.istore_n 3, 1) := by decide +kernel
theorem dX4_makeTable_94 : decode cX4_makeTable 94 = .ok (.iload_n 3, 1) := by decide +kernel
theorem dX4_makeTable_95 : decode cX4_makeTable 95 = .ok (.bipush 32, 2) := by decide +kernel
theorem dX4_makeTable_97 : decode cX4_makeTable 97 = .ok (.if_icmp .ge 23, 3) := by decide +kernel
theorem dX4_makeTable_100 : decode cX4_makeTable 100 = .ok (.aload_n 0, 1) := by decide +kernel
theorem dX4_makeTable_101 : decode cX4_makeTable 101 = .ok (.iload_n 1, 1) := by decide +kernel
theorem dX4_makeTable_102 : decode cX4_makeTable 102 = .ok (.iload_n 2, 1) := by decide +kernel
theorem dX4_makeTable_103 : decode cX4_makeTable 103 = .ok (.iload_n 3, 1) := by decide +kernel
theorem dX4_makeTable_104 : decode cX4_makeTable 104 = .ok (.aload_n 0, 1) := by decide +kernel
theorem dX4_makeTable_105 : decode cX4_makeTable 105 = .ok (.iload_n 1, 1) := by decide +kernel
theorem dX4_makeTable_106 : decode cX4_makeTable 106 = .ok (.iload_n 2, 1) := by decide +kernel
theorem dX4_makeTable_107 : decode cX4_makeTable 107 = .ok (.iload_n 3, 1) := by decide +kernel
theorem dX4_makeTable_108 : decode cX4_makeTable 108 = .ok (.invokevirtual 106, 3) := by decide +kernel
theorem dX4_makeTable_111 : decode cX4_makeTable 111 = .ok (.invokevirtual 87, 3) := by decide +kernel
theorem dX4_makeTable_114 : decode cX4_makeTable 114 = .ok (.iinc 3 1, 3) := by decide +kernel
theorem dX4_makeTable_117 : decode cX4_makeTable 117 = .ok (.goto (-23), 3) := by decide +kernel
theorem dX4_makeTable_120 : decode cX4_makeTable 120 = .ok (.iinc 2 1, 3) := by decide +kernel
theorem dX4_makeTable_123 : decode cX4_makeTable 123 = .ok (.goto (-37), 3) := by decide +kernel
theorem dX4_makeTable_126 : decode cX4_makeTable 126 = .ok (.return_, 1) := by decide +kernel
theorem dX4_prepare_0 : decode cX4_prepare 0 = .ok (.aload_n 0, 1) := by decide +kernel
theorem dX4_prepare_1 : decode cX4_prepare 1 = .ok (.iload_n 1, 1) := by decide +kernel
theorem dX4_prepare_2 : decode cX4_prepare 2 = .ok (.invokevirtual 110, 3) := by decide +kernel
theorem dX4_prepare_5 : decode cX4_prepare 5 = .ok (.aload_n 0, 1) := by decide +kernel
theorem dX4_prepare_6 : decode cX4_prepare 6 = .ok (.iload_n 2, 1) := by decide +kernel
theorem dX4_prepare_7 : decode cX4_prepare 7 = .ok (.iload_n 3, 1) := by decide +kernel
theorem dX4_prepare_8 : decode cX4_prepare 8 = .ok (.invokevirtual 113, 3) := by decide +kernel
theorem dX4_prepare_11 : decode cX4_prepare 11 = .ok (.aload_n 0, 1) := by decide +kernel
theorem dX4_prepare_12 : decode cX4_prepare 12 = .ok (.iconst 0, 1) := by decide +kernel
theorem dX4_prepare_13 : decode cX4_prepare 13 = .ok (.putfield 95, 3) := by decide +kernel
theorem dX4_prepare_16 : decode cX4_prepare 16 = .ok (.iconst 1, 1) := by decide +kernel
theorem dX4_prepare_17 : decode cX4_prepare 17 = .ok (.istore 4, 2) := by decide +kernel
theorem dX4_prepare_19 : decode cX4_prepare 19 = .ok (.iload 4, 2) := by decide +kernel
theorem dX4_prepare_21 : decode cX4_prepare 21 = .ok (.iload_n 1, 1) := by decide +kernel
theorem dX4_prepare_22 : decode cX4_prepare 22 = .ok (.if_icmp .gt 25, 3) := by decide +kernel
theorem dX4_prepare_25 : decode cX4_prepare 25 = .ok (.aload_n 0, 1) := by decide +kernel
theorem dX4_prepare_26 : decode cX4_prepare 26 = .ok (.getfield 36, 3) := by decide +kernel
theorem dX4_prepare_29 : decode cX4_prepare 29 = .ok (.iload 4, 2) := by decide +kernel
theorem dX4_prepare_31 : decode cX4_prepare 31 = .ok (.baload, 1) := by decide +kernel
theorem dX4_prepare_32 : decode cX4_prepare 32 = .ok (.ifCond .eq 9, 3) := by decide +kernel
theorem dX4_prepare_35 : decode cX4_prepare 35 = .ok (.aload_n 0, 1) := by decide +kernel
theorem dX4_prepare_36 : decode cX4_prepare 36 = .ok (.iload 4, 2) := by decide +kernel
theorem dX4_prepare_38 : decode cX4_prepare 38 = .ok (.invokevirtual 116, 3) := by decide +kernel
theorem dX4_prepare_41 : decode cX4_prepare 41 = .ok (.iinc 4 1, 3) := by decide +kernel
theorem dX4_prepare_44 : decode cX4_prepare 44 = .ok (.goto (-25), 3) := by decide +kernel
theorem dX4_prepare_47 : decode cX4_prepare 47 = .ok (.iconst 0, 1) := by decide +kernel
theorem dX4_prepare_48 : decode cX4_prepare 48 = .ok (.istore 4, 2) := by decide +kernel
theorem dX4_prepare_50 : decode cX4_prepare 50 = .ok (.iconst 0, 1) := by decide +kernel
theorem dX4_prepare_51 : decode cX4_prepare 51 = .ok (.istore 5, 2) := by decide +kernel
theorem dX4_prepare_53 : decode cX4_prepare 53 = .ok (.iload 5, 2) := by decide +kernel
theorem dX4_prepare_55 : decode cX4_prepare 55 = .ok (.bipush 32, 2) := by decide +kernel
theorem dX4_prepare_57 : decode cX4_prepare 57 = .ok (.if_icmp .ge 56, 3) := by decide +kernel
theorem dX4_prepare_60 : decode cX4_prepare 60 = .ok (.iconst 0, 1) := by decide +kernel
theorem dX4_prepare_61 : decode cX4_prepare 61 = .ok (.istore 6, 2) := by decide +kernel
theorem dX4_prepare_63 : decode cX4_prepare 63 = .ok (.iload 6, 2) := by decide +kernel
theorem dX4_prepare_65 : decode cX4_prepare 65 = .ok (.bipush 32, 2) := by decide +kernel
theorem dX4_prepare_67 : decode cX4_prepare 67 = .ok (.if_icmp .ge 40, 3) := by decide +kernel
theorem dX4_prepare_70 : decode cX4_prepare 70 = .ok (.iload 5, 2) := by decide +kernel
theorem dX4_prepare_72 : decode cX4_prepare 72 = .ok (.iload 6, 2) := by decide +kernel
theorem dX4_prepare_74 : decode cX4_prepare 74 = .ok (.iload_n 2, 1) := by decide +kernel
theorem dX4_prepare_75 : decode cX4_prepare 75 = .ok (.iload_n 3, 1) := by decide +kernel
theorem dX4_prepare_76 : decode cX4_prepare 76 = .ok (.invokestatic 119, 3) := by decide +kernel
theorem dX4_prepare_79 : decode cX4_prepare 79 = .ok (.ifCond .eq 18, 3) := by decide +kernel
theorem dX4_prepare_82 : decode cX4_prepare 82 = .ok (.iload 4, 2) := by decide +kernel
theorem dX4_prepare_84 : decode cX4_prepare 84 = .ok (.aload_n 0, 1) := by decide +kernel
theorem dX4_prepare_85 : decode cX4_prepare 85 = .ok (.iload_n 1, 1) := by decide +kernel
theorem dX4_prepare_86 : decode cX4_prepare 86 = .ok (.iload 5, 2) := by decide +kernel
theorem dX4_prepare_88 : decode cX4_prepare 88 = .ok (.iload 6, 2) := by decide +kernel
theorem dX4_prepare_90 : decode cX4_prepare 90 = .ok (.invokevirtual 84, 3) := by decide +kernel
theorem dX4_prepare_93 : decode cX4_prepare 93 = .ok (.iadd, 1) := by decide +kernel
theorem dX4_prepare_94 : decode cX4_prepare 94 = .ok (.goto 5, 3) := by decide +kernel
theorem dX4_prepare_97 : decode cX4_prepare 97 = .ok (.iload 4, 2) := by decide +kernel
theorem dX4_prepare_99 : decode cX4_prepare 99 = .ok (.istore 4, 2) := by decide +kernel
theorem dX4_prepare_101 : decode cX4_prepare 101 = .ok (.iinc 6 1, 3) := by decide +kernel
theorem dX4_prepare_104 : decode cX4_prepare 104 = .ok (.goto (-41), 3) := by decide +kernel
theorem dX4_prepare_107 : decode cX4_prepare 107 = .ok (.iinc 5 1, 3) := by decide +kernel
theorem dX4_prepare_110 : decode cX4_prepare 110 = .ok (.goto (-57), 3) := by decide +kernel
theorem dX4_prepare_113 : decode cX4_prepare 113 = .ok (.iload 4, 2) := by decide +kernel
theorem dX4_prepare_115 : decode cX4_prepare 115 = .ok (.ireturn, 1) := by decide +kernel
theorem dX4_fits_0 : decode cX4_fits 0 = .ok (.iload_n 2, 1) := by decide +kernel
theorem dX4_fits_1 : decode cX4_fits 1 = .ok (.ifCond .lt 8, 3) := by decide +kernel
theorem dX4_fits_4 : decode cX4_fits 4 = .ok (.iload_n 2, 1) := by decide +kernel
theorem dX4_fits_5 : decode cX4_fits 5 = .ok (.iload_n 0, 1) := by decide +kernel
theorem dX4_fits_6 : decode cX4_fits 6 = .ok (.if_icmp .ne 16, 3) := by decide +kernel
theorem dX4_fits_9 : decode cX4_fits 9 = .ok (.iload_n 3, 1) := by decide +kernel
theorem dX4_fits_10 : decode cX4_fits 10 = .ok (.ifCond .lt 8, 3) := by decide +kernel
theorem dX4_fits_13 : decode cX4_fits 13 = .ok (.iload_n 3, 1) := by decide +kernel
theorem dX4_fits_14 : decode cX4_fits 14 = .ok (.iload_n 1, 1) := by decide +kernel
theorem dX4_fits_15 : decode cX4_fits 15 = .ok (.if_icmp .ne 7, 3) := by decide +kernel
theorem dX4_fits_18 : decode cX4_fits 18 = .ok (.iconst 1, 1) := by decide +kernel
theorem dX4_fits_19 : decode cX4_fits 19 = .ok (.goto 4, 3) := by decide +kernel
theorem dX4_fits_22 : decode cX4_fits 22 = .ok (.iconst 0, 1) := by decide +kernel
theorem dX4_fits_23 : decode cX4_fits 23 = .ok (.ireturn, 1) := by decide +kernel
theorem dX4_isEnd_0 : decode cX4_isEnd 0 = .ok (.iload_n 0, 1) := by decide +kernel
theorem dX4_isEnd_1 : decode cX4_isEnd 1 = .ok (.iconst (-1), 1) := by decide +kernel
theorem dX4_isEnd_2 : decode cX4_isEnd 2 = .ok (.if_icmp .lt 13, 3) := by decide +kernel
theorem dX4_isEnd_5 : decode cX4_isEnd 5 = .ok (.iload_n 0, 1) := by decide +kernel
theorem dX4_isEnd_6 : decode cX4_isEnd 6 = .ok (.bipush 32, 2) := by decide +kernel
theorem dX4_isEnd_8 : decode cX4_isEnd 8 = .ok (.if_icmp .ge 7, 3) := by decide +kernel
theorem dX4_isEnd_11 : decode cX4_isEnd 11 = .ok (.iconst 1, 1) := by decide +kernel
theorem dX4_isEnd_12 : decode cX4_isEnd 12 = .ok (.goto 4, 3) := by decide +kernel
theorem dX4_isEnd_15 : decode cX4_isEnd 15 = .ok (.iconst 0, 1) := by decide +kernel
theorem dX4_isEnd_16 : decode cX4_isEnd 16 = .ok (.ireturn, 1) := by decide +kernel
theorem dX4_run_0 : decode cX4_run 0 = .ok (.aload_n 0, 1) := by decide +kernel
theorem dX4_run_1 : decode cX4_run 1 = .ok (.iconst 0, 1) := by decide +kernel
theorem dX4_run_2 : decode cX4_run 2 = .ok (.putfield 58, 3) := by decide +kernel
theorem dX4_run_5 : decode cX4_run 5 = .ok (.aload_n 0, 1) := by decide +kernel
theorem dX4_run_6 : decode cX4_run 6 = .ok (.iload_n 1, 1) := by decide +kernel
theorem dX4_run_7 : decode cX4_run 7 = .ok (.invokevirtual 75, 3) := by decide +kernel
theorem dX4_run_10 : decode cX4_run 10 = .ok (.ifCond .ne 5, 3) := by decide +kernel
theorem dX4_run_13 : decode cX4_run 13 = .ok (.iconst (-1), 1) := by decide +kernel
theorem dX4_run_14 : decode cX4_run 14 = .ok (.ireturn, 1) := by decide +kernel
theorem dX4_run_15 : decode cX4_run 15 = .ok (.iload_n 2, 1) := by decide +kernel
theorem dX4_run_16 : decode cX4_run 16 = .ok (.invokestatic 123, 3) := by decide +kernel
theorem dX4_run_19 : decode cX4_run 19 = .ok (.ifCond .eq 10, 3) := by decide +kernel
theorem dX4_run_22 : decode cX4_run 22 = .ok (.iload_n 3, 1) := by decide +kernel
theorem dX4_run_23 : decode cX4_run 23 = .ok (.invokestatic 123, 3) := by decide +kernel
theorem dX4_run_26 : decode cX4_run 26 = .ok (.ifCond .ne 6, 3) := by decide +kernel
theorem dX4_run_29 : decode cX4_run 29 = .ok (.bipush (-2), 2) := by decide +kernel
theorem dX4_run_31 : decode cX4_run 31 = .ok (.ireturn, 1) := by decide +kernel
theorem dX4_run_32 : decode cX4_run 32 = .ok (.aload_n 0, 1) := by decide +kernel
theorem dX4_run_33 : decode cX4_run 33 = .ok (.iload_n 1, 1) := by decide +kernel
theorem dX4_run_34 : decode cX4_run 34 = .ok (.iload_n 2, 1) := by decide +kernel
theorem dX4_run_35 : decode cX4_run 35 = .ok (.iload_n 3, 1) := by decide +kernel
theorem dX4_run_36 : decode cX4_run 36 = .ok (.invokevirtual 126, 3) := by decide +kernel
theorem dX4_run_39 : decode cX4_run 39 = .ok (.istore 4, 2) := by decide +kernel
theorem dX4_run_41 : decode cX4_run 41 = .ok (.aload_n 0, 1) := by decide +kernel
theorem dX4_run_42 : decode cX4_run 42 = .ok (.getfield 95, 3) := by decide +kernel
theorem dX4_run_45 : decode cX4_run 45 = .ok (.ifCond .eq 6, 3) := by decide +kernel
theorem dX4_run_48 : decode cX4_run 48 = .ok (.bipush (-5), 2) := by decide +kernel
theorem dX4_run_50 : decode cX4_run 50 = .ok (.ireturn, 1) := by decide +kernel
theorem dX4_run_51 : decode cX4_run 51 = .ok (.iload 4, 2) := by decide +kernel
theorem dX4_run_53 : decode cX4_run 53 = .ok (.sipush 2000, 3) := by decide +kernel
theorem dX4_run_56 : decode cX4_run 56 = .ok (.if_icmp .le 6, 3) := by decide +kernel
theorem dX4_run_59 : decode cX4_run 59 = .ok (.bipush (-4), 2) := by decide +kernel
theorem dX4_run_61 : decode cX4_run 61 = .ok (.ireturn, 1) := by decide +kernel
theorem dX4_run_62 : decode cX4_run 62 = .ok (.aload_n 0, 1) := by decide +kernel
theorem dX4_run_63 : decode cX4_run 63 = .ok (.iconst 1, 1) := by decide +kernel
theorem dX4_run_64 : decode cX4_run 64 = .ok (.putfield 129, 3) := by decide +kernel
theorem dX4_run_67 : decode cX4_run 67 = .ok (.aload_n 0, 1) := by decide +kernel
theorem dX4_run_68 : decode cX4_run 68 = .ok (.iconst 0, 1) := by decide +kernel
theorem dX4_run_69 : decode cX4_run 69 = .ok (.putfield 132, 3) := by decide +kernel
theorem dX4_run_72 : decode cX4_run 72 = .ok (.iconst 0, 1) := by decide +kernel
theorem dX4_run_73 : decode cX4_run 73 = .ok (.istore 5, 2) := by decide +kernel
theorem dX4_run_75 : decode cX4_run 75 = .ok (.iload 5, 2) := by decide +kernel
theorem dX4_run_77 : decode cX4_run 77 = .ok (.bipush 32, 2) := by decide +kernel
theorem dX4_run_79 : decode cX4_run 79 = .ok (.if_icmp .ge 215, 3) := by decide +kernel
theorem dX4_run_82 : decode cX4_run 82 = .ok (.aload_n 0, 1) := by decide +kernel
theorem dX4_run_83 : decode cX4_run 83 = .ok (.getfield 19, 3) := by decide +kernel
theorem dX4_run_86 : decode cX4_run 86 = .ok (.iload_n 1, 1) := by decide +kernel
theorem dX4_run_87 : decode cX4_run 87 = .ok (.iaload, 1) := by decide +kernel
theorem dX4_run_88 : decode cX4_run 88 = .ok (.iconst 4, 1) := by decide +kernel
theorem dX4_run_89 : decode cX4_run 89 = .ok (.if_icmp .eq 13, 3) := by decide +kernel
theorem dX4_run_92 : decode cX4_run 92 = .ok (.aload_n 0, 1) := by decide +kernel
theorem dX4_run_93 : decode cX4_run 93 = .ok (.getfield 19, 3) := by decide +kernel
theorem dX4_run_96 : decode cX4_run 96 = .ok (.iload_n 1, 1) := by decide +kernel
theorem dX4_run_97 : decode cX4_run 97 = .ok (.iaload, 1) := by decide +kernel
theorem dX4_run_98 : decode cX4_run 98 = .ok (.iconst 5, 1) := by decide +kernel
theorem dX4_run_99 : decode cX4_run 99 = .ok (.if_icmp .ne 7, 3) := by decide +kernel
theorem dX4_run_102 : decode cX4_run 102 = .ok (.iconst 1, 1) := by decide +kernel
theorem dX4_run_103 : decode cX4_run 103 = .ok (.goto 4, 3) := by decide +kernel
theorem dX4_run_106 : decode cX4_run 106 = .ok (.iconst 0, 1) := by decide +kernel
theorem dX4_run_107 : decode cX4_run 107 = .ok (.istore 6, 2) := by decide +kernel
theorem dX4_run_109 : decode cX4_run 109 = .ok (.iload 6, 2) := by decide +kernel
theorem dX4_run_111 : decode cX4_run 111 = .ok (.ifCond .eq 15, 3) := by decide +kernel
theorem dX4_run_114 : decode cX4_run 114 = .ok (.aload_n 0, 1) := by decide +kernel
theorem dX4_run_115 : decode cX4_run 115 = .ok (.aload_n 0, 1) := by decide +kernel
theorem dX4_run_116 : decode cX4_run 116 = .ok (.getfield 22, 3) := by decide +kernel
theorem dX4_run_119 : decode cX4_run 119 = .ok (.iload_n 1, 1) := by decide +kernel
theorem dX4_run_120 : decode cX4_run 120 = .ok (.iaload, 1) := by decide +kernel
theorem dX4_run_121 : decode cX4_run 121 = .ok (.iload 5, 2) := by decide +kernel
theorem dX4_run_123 : decode cX4_run 123 = .ok (.invokevirtual 91, 3) := by decide +kernel
theorem dX4_run_126 : decode cX4_run 126 = .ok (.iconst 0, 1) := by decide +kernel
theorem dX4_run_127 : decode cX4_run 127 = .ok (.istore 7, 2) := by decide +kernel
theorem dX4_run_129 : decode cX4_run 129 = .ok (.iload 7, 2) := by decide +kernel
theorem dX4_run_131 : decode cX4_run 131 = .ok (.bipush 32, 2) := by decide +kernel
theorem dX4_run_133 : decode cX4_run 133 = .ok (.if_icmp .ge 155, 3) := by decide +kernel
theorem dX4_run_136 : decode cX4_run 136 = .ok (.iload 5, 2) := by decide +kernel
theorem dX4_run_138 : decode cX4_run 138 = .ok (.iload 7, 2) := by decide +kernel
theorem dX4_run_140 : decode cX4_run 140 = .ok (.iload_n 2, 1) := by decide +kernel
theorem dX4_run_141 : decode cX4_run 141 = .ok (.iload_n 3, 1) := by decide +kernel
theorem dX4_run_142 : decode cX4_run 142 = .ok (.invokestatic 119, 3) := by decide +kernel
theorem dX4_run_145 : decode cX4_run 145 = .ok (.ifCond .eq 15, 3) := by decide +kernel
theorem dX4_run_148 : decode cX4_run 148 = .ok (.aload_n 0, 1) := by decide +kernel
theorem dX4_run_149 : decode cX4_run 149 = .ok (.iload_n 1, 1) := by decide +kernel
theorem dX4_run_150 : decode cX4_run 150 = .ok (.iload 5, 2) := by decide +kernel
theorem dX4_run_152 : decode cX4_run 152 = .ok (.iload 7, 2) := by decide +kernel
theorem dX4_run_154 : decode cX4_run 154 = .ok (.invokevirtual 84, 3) := by decide +kernel
theorem dX4_run_157 : decode cX4_run 157 = .ok (.goto 4, 3) := by decide +kernel
theorem dX4_run_160 : decode cX4_run 160 = .ok (.iconst 0, 1) := by decide +kernel
theorem dX4_run_161 : decode cX4_run 161 = .ok (.istore 8, 2) := by decide +kernel
theorem dX4_run_163 : decode cX4_run 163 = .ok (.iload 5, 2) := by decide +kernel
theorem dX4_run_165 : decode cX4_run 165 = .ok (.iload 7, 2) := by decide +kernel
theorem dX4_run_167 : decode cX4_run 167 = .ok (.if_icmp .ne 38, 3) := by decide +kernel
theorem dX4_run_170 : decode cX4_run 170 = .ok (.aload_n 0, 1) := by decide +kernel
theorem dX4_run_171 : decode cX4_run 171 = .ok (.getfield 19, 3) := by decide +kernel
theorem dX4_run_174 : decode cX4_run 174 = .ok (.iload_n 1, 1) := by decide +kernel
theorem dX4_run_175 : decode cX4_run 175 = .ok (.iaload, 1) := by decide +kernel
theorem dX4_run_176 : decode cX4_run 176 = .ok (.iconst 4, 1) := by decide +kernel
theorem dX4_run_177 : decode cX4_run 177 = .ok (.if_icmp .eq 24, 3) := by decide +kernel
theorem dX4_run_180 : decode cX4_run 180 = .ok (.aload_n 0, 1) := by decide +kernel
theorem dX4_run_181 : decode cX4_run 181 = .ok (.getfield 19, 3) := by decide +kernel
theorem dX4_run_184 : decode cX4_run 184 = .ok (.iload_n 1, 1) := by decide +kernel
theorem dX4_run_185 : decode cX4_run 185 = .ok (.iaload, 1) := by decide +kernel
theorem dX4_run_186 : decode cX4_run 186 = .ok (.bipush 6, 2) := by decide +kernel
theorem dX4_run_188 : decode cX4_run 188 = .ok (.if_icmp .ne 17, 3) := by decide +kernel
theorem dX4_run_191 : decode cX4_run 191 = .ok (.aload_n 0, 1) := by decide +kernel
theorem dX4_run_192 : decode cX4_run 192 = .ok (.getfield 40, 3) := by decide +kernel
theorem dX4_run_195 : decode cX4_run 195 = .ok (.iload 5, 2) := by decide +kernel
theorem dX4_run_197 : decode cX4_run 197 = .ok (.baload, 1) := by decide +kernel
theorem dX4_run_198 : decode cX4_run 198 = .ok (.ifCond .eq 7, 3) := by decide +kernel
theorem dX4_run_201 : decode cX4_run 201 = .ok (.iconst 0, 1) := by decide +kernel
theorem dX4_run_202 : decode cX4_run 202 = .ok (.goto 19, 3) := by decide +kernel
theorem dX4_run_205 : decode cX4_run 205 = .ok (.iload 6, 2) := by decide +kernel
theorem dX4_run_207 : decode cX4_run 207 = .ok (.ifCond .eq 13, 3) := by decide +kernel
theorem dX4_run_210 : decode cX4_run 210 = .ok (.aload_n 0, 1) := by decide +kernel
theorem dX4_run_211 : decode cX4_run 211 = .ok (.getfield 43, 3) := by decide +kernel
theorem dX4_run_214 : decode cX4_run 214 = .ok (.iload 7, 2) := by decide +kernel
theorem dX4_run_216 : decode cX4_run 216 = .ok (.iaload, 1) := by decide +kernel
theorem dX4_run_217 : decode cX4_run 217 = .ok (.goto 4, 3) := by decide +kernel
theorem dX4_run_220 : decode cX4_run 220 = .ok (.iconst 1, 1) := by decide +kernel
theorem dX4_run_221 : decode cX4_run 221 = .ok (.istore 9, 2) := by decide +kernel
theorem dX4_run_223 : decode cX4_run 223 = .ok (.iconst 0, 1) := by decide +kernel
theorem dX4_run_224 : decode cX4_run 224 = .ok (.istore 10, 2) := by decide +kernel
theorem dX4_run_226 : decode cX4_run 226 = .ok (.iload 10, 2) := by decide +kernel
theorem dX4_run_228 : decode cX4_run 228 = .ok (.iload 8, 2) := by decide +kernel
theorem dX4_run_230 : decode cX4_run 230 = .ok (.if_icmp .ge 52, 3) := by decide +kernel
theorem dX4_run_233 : decode cX4_run 233 = .ok (.aload_n 0, 1) := by decide +kernel
theorem dX4_run_234 : decode cX4_run 234 = .ok (.getfield 49, 3) := by decide +kernel
theorem dX4_run_237 : decode cX4_run 237 = .ok (.aload_n 0, 1) := by decide +kernel
theorem dX4_run_238 : decode cX4_run 238 = .ok (.getfield 132, 3) := by decide +kernel
theorem dX4_run_241 : decode cX4_run 241 = .ok (.iload 5, 2) := by decide +kernel
theorem dX4_run_243 : decode cX4_run 243 = .ok (.iastore, 1) := by decide +kernel
theorem dX4_run_244 : decode cX4_run 244 = .ok (.aload_n 0, 1) := by decide +kernel
theorem dX4_run_245 : decode cX4_run 245 = .ok (.getfield 52, 3) := by decide +kernel
theorem dX4_run_248 : decode cX4_run 248 = .ok (.aload_n 0, 1) := by decide +kernel
theorem dX4_run_249 : decode cX4_run 249 = .ok (.getfield 132, 3) := by decide +kernel
theorem dX4_run_252 : decode cX4_run 252 = .ok (.iload 7, 2) := by decide +kernel
theorem dX4_run_254 : decode cX4_run 254 = .ok (.iastore, 1) := by decide +kernel
theorem dX4_run_255 : decode cX4_run 255 = .ok (.aload_n 0, 1) := by decide +kernel
theorem dX4_run_256 : decode cX4_run 256 = .ok (.getfield 55, 3) := by decide +kernel
theorem dX4_run_259 : decode cX4_run 259 = .ok (.aload_n 0, 1) := by decide +kernel
theorem dX4_run_260 : decode cX4_run 260 = .ok (.getfield 132, 3) := by decide +kernel
theorem dX4_run_263 : decode cX4_run 263 = .ok (.iload 9, 2) := by decide +kernel
theorem dX4_run_265 : decode cX4_run 265 = .ok (.iastore, 1) := by decide +kernel
theorem dX4_run_266 : decode cX4_run 266 = .ok (.aload_n 0, 1) := by decide +kernel
theorem dX4_run_267 : decode cX4_run 267 = .ok (.dup, 1) := by decide +kernel
theorem dX4_run_268 : decode cX4_run 268 = .ok (.getfield 132, 3) := by decide +kernel
theorem dX4_run_271 : decode cX4_run 271 = .ok (.iconst 1, 1) := by decide +kernel
theorem dX4_run_272 : decode cX4_run 272 = .ok (.iadd, 1) := by decide +kernel
theorem dX4_run_273 : decode cX4_run 273 = .ok (.putfield 132, 3) := by decide +kernel
theorem dX4_run_276 : decode cX4_run 276 = .ok (.iinc 10 1, 3) := by decide +kernel
theorem dX4_run_279 : decode cX4_run 279 = .ok (.goto (-53), 3) := by decide +kernel
theorem dX4_run_282 : decode cX4_run 282 = .ok (.iinc 7 1, 3) := by decide +kernel
theorem dX4_run_285 : decode cX4_run 285 = .ok (.goto (-156), 3) := by decide +kernel
theorem dX4_run_288 : decode cX4_run 288 = .ok (.iinc 5 1, 3) := by decide +kernel
theorem dX4_run_291 : decode cX4_run 291 = .ok (.goto (-216), 3) := by decide +kernel
theorem dX4_run_294 : decode cX4_run 294 = .ok (.iload 4, 2) := by decide +kernel
theorem dX4_run_296 : decode cX4_run 296 = .ok (.ireturn, 1) := by decide +kernel
theorem dX4_plain_0 : decode cX4_plain 0 = .ok (.aload_n 0, 1) := by decide +kernel
theorem dX4_plain_1 : decode cX4_plain 1 = .ok (.iconst 0, 1) := by decide +kernel
theorem dX4_plain_2 : decode cX4_plain 2 = .ok (.putfield 58, 3) := by decide +kernel
theorem dX4_plain_5 : decode cX4_plain 5 = .ok (.aload_n 0, 1) := by decide +kernel
theorem dX4_plain_6 : decode cX4_plain 6 = .ok (.iload_n 1, 1) := by decide +kernel
theorem dX4_plain_7 : decode cX4_plain 7 = .ok (.invokevirtual 75, 3) := by decide +kernel
theorem dX4_plain_10 : decode cX4_plain 10 = .ok (.ifCond .ne 5, 3) := by decide +kernel
theorem dX4_plain_13 : decode cX4_plain 13 = .ok (.iconst (-1), 1) := by decide +kernel
theorem dX4_plain_14 : decode cX4_plain 14 = .ok (.ireturn, 1) := by decide +kernel
theorem dX4_plain_15 : decode cX4_plain 15 = .ok (.iload_n 2, 1) := by decide +kernel
theorem dX4_plain_16 : decode cX4_plain 16 = .ok (.invokestatic 123, 3) := by decide +kernel
theorem dX4_plain_19 : decode cX4_plain 19 = .ok (.ifCond .eq 20, 3) := by decide +kernel
theorem dX4_plain_22 : decode cX4_plain 22 = .ok (.iload_n 3, 1) := by decide +kernel
theorem dX4_plain_23 : decode cX4_plain 23 = .ok (.invokestatic 123, 3) := by decide +kernel
theorem dX4_plain_26 : decode cX4_plain 26 = .ok (.ifCond .eq 13, 3) := by decide +kernel
theorem dX4_plain_29 : decode cX4_plain 29 = .ok (.aload_n 0, 1) := by decide +kernel
theorem dX4_plain_30 : decode cX4_plain 30 = .ok (.iload_n 1, 1) := by decide +kernel
theorem dX4_plain_31 : decode cX4_plain 31 = .ok (.iload_n 2, 1) := by decide +kernel
theorem dX4_plain_32 : decode cX4_plain 32 = .ok (.iload_n 3, 1) := by decide +kernel
theorem dX4_plain_33 : decode cX4_plain 33 = .ok (.invokevirtual 126, 3) := by decide +kernel
theorem dX4_plain_36 : decode cX4_plain 36 = .ok (.goto 5, 3) := by decide +kernel
theorem dX4_plain_39 : decode cX4_plain 39 = .ok (.bipush (-2), 2) := by decide +kernel
theorem dX4_plain_41 : decode cX4_plain 41 = .ok (.ireturn, 1) := by decide +kernel
theorem dX4_isRow_0 : decode cX4_isRow 0 = .ok (.aload_n 0, 1) := by decide +kernel
theorem dX4_isRow_1 : decode cX4_isRow 1 = .ok (.getfield 129, 3) := by decide +kernel
theorem dX4_isRow_4 : decode cX4_isRow 4 = .ok (.ifCond .eq 19, 3) := by decide +kernel
theorem dX4_isRow_7 : decode cX4_isRow 7 = .ok (.iload_n 1, 1) := by decide +kernel
theorem dX4_isRow_8 : decode cX4_isRow 8 = .ok (.ifCond .lt 15, 3) := by decide +kernel
theorem dX4_isRow_11 : decode cX4_isRow 11 = .ok (.iload_n 1, 1) := by decide +kernel
theorem dX4_isRow_12 : decode cX4_isRow 12 = .ok (.aload_n 0, 1) := by decide +kernel
theorem dX4_isRow_13 : decode cX4_isRow 13 = .ok (.getfield 132, 3) := by decide +kernel
theorem dX4_isRow_16 : decode cX4_isRow 16 = .ok (.if_icmp .ge 7, 3) := by decide +kernel
theorem dX4_isRow_19 : decode cX4_isRow 19 = .ok (.iconst 1, 1) := by decide +kernel
theorem dX4_isRow_20 : decode cX4_isRow 20 = .ok (.goto 4, 3) := by decide +kernel
theorem dX4_isRow_23 : decode cX4_isRow 23 = .ok (.iconst 0, 1) := by decide +kernel
theorem dX4_isRow_24 : decode cX4_isRow 24 = .ok (.ireturn, 1) := by decide +kernel
theorem dX4_at_0 : decode cX4_at 0 = .ok (.aload_n 0, 1) := by decide +kernel
theorem dX4_at_1 : decode cX4_at 1 = .ok (.iconst 0, 1) := by decide +kernel
theorem dX4_at_2 : decode cX4_at 2 = .ok (.putfield 58, 3) := by decide +kernel
theorem dX4_at_5 : decode cX4_at 5 = .ok (.iload_n 2, 1) := by decide +kernel
theorem dX4_at_6 : decode cX4_at 6 = .ok (.ifCond .eq 11, 3) := by decide +kernel
theorem dX4_at_9 : decode cX4_at 9 = .ok (.iload_n 2, 1) := by decide +kernel
theorem dX4_at_10 : decode cX4_at 10 = .ok (.iconst 1, 1) := by decide +kernel
theorem dX4_at_11 : decode cX4_at 11 = .ok (.if_icmp .eq 6, 3) := by decide +kernel
theorem dX4_at_14 : decode cX4_at 14 = .ok (.bipush (-2), 2) := by decide +kernel
theorem dX4_at_16 : decode cX4_at 16 = .ok (.ireturn, 1) := by decide +kernel
theorem dX4_at_17 : decode cX4_at 17 = .ok (.aload_n 0, 1) := by decide +kernel
theorem dX4_at_18 : decode cX4_at 18 = .ok (.getfield 129, 3) := by decide +kernel
theorem dX4_at_21 : decode cX4_at 21 = .ok (.ifCond .ne 6, 3) := by decide +kernel
theorem dX4_at_24 : decode cX4_at 24 = .ok (.bipush (-3), 2) := by decide +kernel
theorem dX4_at_26 : decode cX4_at 26 = .ok (.ireturn, 1) := by decide +kernel
theorem dX4_at_27 : decode cX4_at 27 = .ok (.aload_n 0, 1) := by decide +kernel
theorem dX4_at_28 : decode cX4_at 28 = .ok (.iload_n 1, 1) := by decide +kernel
theorem dX4_at_29 : decode cX4_at 29 = .ok (.invokevirtual 135, 3) := by decide +kernel
theorem dX4_at_32 : decode cX4_at 32 = .ok (.ifCond .ne 7, 3) := by decide +kernel
theorem dX4_at_35 : decode cX4_at 35 = .ok (.iconst (-1), 1) := by decide +kernel
theorem dX4_at_36 : decode cX4_at 36 = .ok (.goto 22, 3) := by decide +kernel
theorem dX4_at_39 : decode cX4_at 39 = .ok (.iload_n 2, 1) := by decide +kernel
theorem dX4_at_40 : decode cX4_at 40 = .ok (.ifCond .ne 12, 3) := by decide +kernel
theorem dX4_at_43 : decode cX4_at 43 = .ok (.aload_n 0, 1) := by decide +kernel
theorem dX4_at_44 : decode cX4_at 44 = .ok (.getfield 49, 3) := by decide +kernel
theorem dX4_at_47 : decode cX4_at 47 = .ok (.iload_n 1, 1) := by decide +kernel
theorem dX4_at_48 : decode cX4_at 48 = .ok (.iaload, 1) := by decide +kernel
theorem dX4_at_49 : decode cX4_at 49 = .ok (.goto 9, 3) := by decide +kernel
theorem dX4_at_52 : decode cX4_at 52 = .ok (.aload_n 0, 1) := by decide +kernel
theorem dX4_at_53 : decode cX4_at 53 = .ok (.getfield 52, 3) := by decide +kernel
theorem dX4_at_56 : decode cX4_at 56 = .ok (.iload_n 1, 1) := by decide +kernel
theorem dX4_at_57 : decode cX4_at 57 = .ok (.iaload, 1) := by decide +kernel
theorem dX4_at_58 : decode cX4_at 58 = .ok (.ireturn, 1) := by decide +kernel
theorem dX4_cycle_0 : decode cX4_cycle 0 = .ok (.aload_n 0, 1) := by decide +kernel
theorem dX4_cycle_1 : decode cX4_cycle 1 = .ok (.iconst 0, 1) := by decide +kernel
theorem dX4_cycle_2 : decode cX4_cycle 2 = .ok (.putfield 58, 3) := by decide +kernel
theorem dX4_cycle_5 : decode cX4_cycle 5 = .ok (.aload_n 0, 1) := by decide +kernel
theorem dX4_cycle_6 : decode cX4_cycle 6 = .ok (.iload_n 1, 1) := by decide +kernel
theorem dX4_cycle_7 : decode cX4_cycle 7 = .ok (.invokevirtual 135, 3) := by decide +kernel
theorem dX4_cycle_10 : decode cX4_cycle 10 = .ok (.ifCond .eq 22, 3) := by decide +kernel
theorem dX4_cycle_13 : decode cX4_cycle 13 = .ok (.aload_n 0, 1) := by decide +kernel
theorem dX4_cycle_14 : decode cX4_cycle 14 = .ok (.getfield 49, 3) := by decide +kernel
theorem dX4_cycle_17 : decode cX4_cycle 17 = .ok (.iload_n 1, 1) := by decide +kernel
theorem dX4_cycle_18 : decode cX4_cycle 18 = .ok (.iaload, 1) := by decide +kernel
theorem dX4_cycle_19 : decode cX4_cycle 19 = .ok (.aload_n 0, 1) := by decide +kernel
theorem dX4_cycle_20 : decode cX4_cycle 20 = .ok (.getfield 52, 3) := by decide +kernel
theorem dX4_cycle_23 : decode cX4_cycle 23 = .ok (.iload_n 1, 1) := by decide +kernel
theorem dX4_cycle_24 : decode cX4_cycle 24 = .ok (.iaload, 1) := by decide +kernel
theorem dX4_cycle_25 : decode cX4_cycle 25 = .ok (.if_icmp .ne 7, 3) := by decide +kernel
theorem dX4_cycle_28 : decode cX4_cycle 28 = .ok (.iconst 1, 1) := by decide +kernel
theorem dX4_cycle_29 : decode cX4_cycle 29 = .ok (.goto 4, 3) := by decide +kernel
theorem dX4_cycle_32 : decode cX4_cycle 32 = .ok (.iconst 0, 1) := by decide +kernel
theorem dX4_cycle_33 : decode cX4_cycle 33 = .ok (.ireturn, 1) := by decide +kernel
theorem dX4_depth_0 : decode cX4_depth 0 = .ok (.aload_n 0, 1) := by decide +kernel
theorem dX4_depth_1 : decode cX4_depth 1 = .ok (.aload_n 0, 1) := by decide +kernel
theorem dX4_depth_2 : decode cX4_depth 2 = .ok (.iload_n 1, 1) := by decide +kernel
theorem dX4_depth_3 : decode cX4_depth 3 = .ok (.invokevirtual 135, 3) := by decide +kernel
theorem dX4_depth_6 : decode cX4_depth 6 = .ok (.ifCond .eq 7, 3) := by decide +kernel
theorem dX4_depth_9 : decode cX4_depth 9 = .ok (.iconst 0, 1) := by decide +kernel
theorem dX4_depth_10 : decode cX4_depth 10 = .ok (.goto 4, 3) := by decide +kernel
theorem dX4_depth_13 : decode cX4_depth 13 = .ok (.iconst 1, 1) := by decide +kernel
theorem dX4_depth_14 : decode cX4_depth 14 = .ok (.putfield 58, 3) := by decide +kernel
theorem dX4_depth_17 : decode cX4_depth 17 = .ok (.aload_n 0, 1) := by decide +kernel
theorem dX4_depth_18 : decode cX4_depth 18 = .ok (.getfield 58, 3) := by decide +kernel
theorem dX4_depth_21 : decode cX4_depth 21 = .ok (.ifCond .le 7, 3) := by decide +kernel
theorem dX4_depth_24 : decode cX4_depth 24 = .ok (.iconst 0, 1) := by decide +kernel
theorem dX4_depth_25 : decode cX4_depth 25 = .ok (.goto 9, 3) := by decide +kernel
theorem dX4_depth_28 : decode cX4_depth 28 = .ok (.aload_n 0, 1) := by decide +kernel
theorem dX4_depth_29 : decode cX4_depth 29 = .ok (.getfield 55, 3) := by decide +kernel
theorem dX4_depth_32 : decode cX4_depth 32 = .ok (.iload_n 1, 1) := by decide +kernel
theorem dX4_depth_33 : decode cX4_depth 33 = .ok (.iaload, 1) := by decide +kernel
theorem dX4_depth_34 : decode cX4_depth 34 = .ok (.ireturn, 1) := by decide +kernel
