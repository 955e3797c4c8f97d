theorem dM_actFrom_298 : decode prog_14_method_40_code 298 = .ok (.getfield 17, 3) := by decide +kernel
theorem dM_actFrom_301 : decode prog_14_method_40_code 301 = .ok (.iload_n 2, 1) := by decide +kernel
theorem dM_actFrom_302 : decode prog_14_method_40_code 302 = .ok (.iload 7, 2) := by decide +kernel
theorem dM_actFrom_304 : decode prog_14_method_40_code 304 = .ok (.iconst (0), 1) := by decide +kernel
theorem dM_actFrom_305 : decode prog_14_method_40_code 305 = .ok (.iload 6, 2) := by decide +kernel
theorem dM_actFrom_307 : decode prog_14_method_40_code 307 = .ok (.invokestatic 245, 3) := by decide +kernel
theorem dM_actFrom_310 : decode prog_14_method_40_code 310 = .ok (.invokestatic 176, 3) := by decide +kernel
theorem dM_actFrom_313 : decode prog_14_method_40_code 313 = .ok (.iaload, 1) := by decide +kernel
theorem dM_actFrom_314 : decode prog_14_method_40_code 314 = .ok (.iload 6, 2) := by decide +kernel
theorem dM_actFrom_316 : decode prog_14_method_40_code 316 = .ok (.invokestatic 248, 3) := by decide +kernel
theorem dM_actFrom_319 : decode prog_14_method_40_code 319 = .ok (.iload 5, 2) := by decide +kernel
theorem dM_actFrom_321 : decode prog_14_method_40_code 321 = .ok (.invokestatic 239, 3) := by decide +kernel
theorem dM_actFrom_324 : decode prog_14_method_40_code 324 = .ok (.iload 4, 2) := by decide +kernel
theorem dM_actFrom_326 : decode prog_14_method_40_code 326 = .ok (.bipush (17), 2) := by decide +kernel
theorem dM_actFrom_328 : decode prog_14_method_40_code 328 = .ok (.invokevirtual 242, 3) := by decide +kernel
theorem dM_actFrom_331 : decode prog_14_method_40_code 331 = .ok (.return_, 1) := by decide +kernel
theorem dM_walkQueues_0 : decode prog_14_method_41_code 0 = .ok (.aload_n 0, 1) := by decide +kernel
theorem dM_walkQueues_1 : decode prog_14_method_41_code 1 = .ok (.invokevirtual 218, 3) := by decide +kernel
theorem dM_walkQueues_4 : decode prog_14_method_41_code 4 = .ok (.aload_n 0, 1) := by decide +kernel
theorem dM_walkQueues_5 : decode prog_14_method_41_code 5 = .ok (.iconst (0), 1) := by decide +kernel
theorem dM_walkQueues_6 : decode prog_14_method_41_code 6 = .ok (.putfield 228, 3) := by decide +kernel
theorem dM_walkQueues_9 : decode prog_14_method_41_code 9 = .ok (.aload_n 0, 1) := by decide +kernel
theorem dM_walkQueues_10 : decode prog_14_method_41_code 10 = .ok (.iconst (0), 1) := by decide +kernel
theorem dM_walkQueues_11 : decode prog_14_method_41_code 11 = .ok (.iconst (0), 1) := by decide +kernel
theorem dM_walkQueues_12 : decode prog_14_method_41_code 12 = .ok (.iconst (0), 1) := by decide +kernel
theorem dM_walkQueues_13 : decode prog_14_method_41_code 13 = .ok (.invokevirtual 212, 3) := by decide +kernel
theorem dM_walkQueues_16 : decode prog_14_method_41_code 16 = .ok (.pop, 1) := by decide +kernel
theorem dM_walkQueues_17 : decode prog_14_method_41_code 17 = .ok (.iconst (0), 1) := by decide +kernel
theorem dM_walkQueues_18 : decode prog_14_method_41_code 18 = .ok (.istore 4, 2) := by decide +kernel
theorem dM_walkQueues_20 : decode prog_14_method_41_code 20 = .ok (.iconst (0), 1) := by decide +kernel
theorem dM_walkQueues_21 : decode prog_14_method_41_code 21 = .ok (.istore 5, 2) := by decide +kernel
theorem dM_walkQueues_23 : decode prog_14_method_41_code 23 = .ok (.iload 5, 2) := by decide +kernel
theorem dM_walkQueues_25 : decode prog_14_method_41_code 25 = .ok (.aload_n 0, 1) := by decide +kernel
theorem dM_walkQueues_26 : decode prog_14_method_41_code 26 = .ok (.getfield 196, 3) := by decide +kernel
theorem dM_walkQueues_29 : decode prog_14_method_41_code 29 = .ok (.if_icmp .ge (134), 3) := by decide +kernel
theorem dM_walkQueues_32 : decode prog_14_method_41_code 32 = .ok (.aload_n 0, 1) := by decide +kernel
theorem dM_walkQueues_33 : decode prog_14_method_41_code 33 = .ok (.getfield 228, 3) := by decide +kernel
theorem dM_walkQueues_36 : decode prog_14_method_41_code 36 = .ok (.ifCond .ne (127), 3) := by decide +kernel
theorem dM_walkQueues_39 : decode prog_14_method_41_code 39 = .ok (.aload_n 0, 1) := by decide +kernel
theorem dM_walkQueues_40 : decode prog_14_method_41_code 40 = .ok (.iload_n 1, 1) := by decide +kernel
theorem dM_walkQueues_41 : decode prog_14_method_41_code 41 = .ok (.iload_n 2, 1) := by decide +kernel
theorem dM_walkQueues_42 : decode prog_14_method_41_code 42 = .ok (.iload_n 3, 1) := by decide +kernel
theorem dM_walkQueues_43 : decode prog_14_method_41_code 43 = .ok (.iload 5, 2) := by decide +kernel
theorem dM_walkQueues_45 : decode prog_14_method_41_code 45 = .ok (.invokevirtual 251, 3) := by decide +kernel
theorem dM_walkQueues_48 : decode prog_14_method_41_code 48 = .ok (.aload_n 0, 1) := by decide +kernel
theorem dM_walkQueues_49 : decode prog_14_method_41_code 49 = .ok (.getfield 82, 3) := by decide +kernel
theorem dM_walkQueues_52 : decode prog_14_method_41_code 52 = .ok (.iload 5, 2) := by decide +kernel
theorem dM_walkQueues_54 : decode prog_14_method_41_code 54 = .ok (.iaload, 1) := by decide +kernel
theorem dM_walkQueues_55 : decode prog_14_method_41_code 55 = .ok (.sipush (5329), 3) := by decide +kernel
theorem dM_walkQueues_58 : decode prog_14_method_41_code 58 = .ok (.irem, 1) := by decide +kernel
theorem dM_walkQueues_59 : decode prog_14_method_41_code 59 = .ok (.ifCond .ne (7), 3) := by decide +kernel
theorem dM_walkQueues_62 : decode prog_14_method_41_code 62 = .ok (.iconst (1), 1) := by decide +kernel
theorem dM_walkQueues_63 : decode prog_14_method_41_code 63 = .ok (.goto (4), 3) := by decide +kernel
theorem dM_walkQueues_66 : decode prog_14_method_41_code 66 = .ok (.iconst (0), 1) := by decide +kernel
theorem dM_walkQueues_67 : decode prog_14_method_41_code 67 = .ok (.istore 6, 2) := by decide +kernel
theorem dM_walkQueues_69 : decode prog_14_method_41_code 69 = .ok (.iload 6, 2) := by decide +kernel
theorem dM_walkQueues_71 : decode prog_14_method_41_code 71 = .ok (.ifCond .eq (57), 3) := by decide +kernel
theorem dM_walkQueues_74 : decode prog_14_method_41_code 74 = .ok (.aload_n 0, 1) := by decide +kernel
theorem dM_walkQueues_75 : decode prog_14_method_41_code 75 = .ok (.getfield 20, 3) := by decide +kernel
theorem dM_walkQueues_78 : decode prog_14_method_41_code 78 = .ok (.bipush (25), 2) := by decide +kernel
theorem dM_walkQueues_80 : decode prog_14_method_41_code 80 = .ok (.iload_n 1, 1) := by decide +kernel
theorem dM_walkQueues_81 : decode prog_14_method_41_code 81 = .ok (.imul, 1) := by decide +kernel
theorem dM_walkQueues_82 : decode prog_14_method_41_code 82 = .ok (.aload_n 0, 1) := by decide +kernel
theorem dM_walkQueues_83 : decode prog_14_method_41_code 83 = .ok (.getfield 82, 3) := by decide +kernel
theorem dM_walkQueues_86 : decode prog_14_method_41_code 86 = .ok (.iload 5, 2) := by decide +kernel
theorem dM_walkQueues_88 : decode prog_14_method_41_code 88 = .ok (.iaload, 1) := by decide +kernel
theorem dM_walkQueues_89 : decode prog_14_method_41_code 89 = .ok (.ldc 231, 2) := by decide +kernel
theorem dM_walkQueues_91 : decode prog_14_method_41_code 91 = .ok (.idiv, 1) := by decide +kernel
theorem dM_walkQueues_92 : decode prog_14_method_41_code 92 = .ok (.iadd, 1) := by decide +kernel
theorem dM_walkQueues_93 : decode prog_14_method_41_code 93 = .ok (.baload, 1) := by decide +kernel
theorem dM_walkQueues_94 : decode prog_14_method_41_code 94 = .ok (.ifCond .eq (34), 3) := by decide +kernel
theorem dM_walkQueues_97 : decode prog_14_method_41_code 97 = .ok (.aload_n 0, 1) := by decide +kernel
theorem dM_walkQueues_98 : decode prog_14_method_41_code 98 = .ok (.getfield 20, 3) := by decide +kernel
theorem dM_walkQueues_101 : decode prog_14_method_41_code 101 = .ok (.bipush (25), 2) := by decide +kernel
theorem dM_walkQueues_103 : decode prog_14_method_41_code 103 = .ok (.iload_n 2, 1) := by decide +kernel
theorem dM_walkQueues_104 : decode prog_14_method_41_code 104 = .ok (.imul, 1) := by decide +kernel
theorem dM_walkQueues_105 : decode prog_14_method_41_code 105 = .ok (.aload_n 0, 1) := by decide +kernel
theorem dM_walkQueues_106 : decode prog_14_method_41_code 106 = .ok (.getfield 82, 3) := by decide +kernel
theorem dM_walkQueues_109 : decode prog_14_method_41_code 109 = .ok (.iload 5, 2) := by decide +kernel
theorem dM_walkQueues_111 : decode prog_14_method_41_code 111 = .ok (.iaload, 1) := by decide +kernel
theorem dM_walkQueues_112 : decode prog_14_method_41_code 112 = .ok (.sipush (5329), 3) := by decide +kernel
theorem dM_walkQueues_115 : decode prog_14_method_41_code 115 = .ok (.idiv, 1) := by decide +kernel
theorem dM_walkQueues_116 : decode prog_14_method_41_code 116 = .ok (.bipush (25), 2) := by decide +kernel
theorem dM_walkQueues_118 : decode prog_14_method_41_code 118 = .ok (.irem, 1) := by decide +kernel
theorem dM_walkQueues_119 : decode prog_14_method_41_code 119 = .ok (.iadd, 1) := by decide +kernel
theorem dM_walkQueues_120 : decode prog_14_method_41_code 120 = .ok (.baload, 1) := by decide +kernel
theorem dM_walkQueues_121 : decode prog_14_method_41_code 121 = .ok (.ifCond .eq (7), 3) := by decide +kernel
theorem dM_walkQueues_124 : decode prog_14_method_41_code 124 = .ok (.iconst (1), 1) := by decide +kernel
theorem dM_walkQueues_125 : decode prog_14_method_41_code 125 = .ok (.goto (4), 3) := by decide +kernel
theorem dM_walkQueues_128 : decode prog_14_method_41_code 128 = .ok (.iconst (0), 1) := by decide +kernel
theorem dM_walkQueues_129 : decode prog_14_method_41_code 129 = .ok (.istore 7, 2) := by decide +kernel
theorem dM_walkQueues_131 : decode prog_14_method_41_code 131 = .ok (.iload 4, 2) := by decide +kernel
theorem dM_walkQueues_133 : decode prog_14_method_41_code 133 = .ok (.ifCond .ne (24), 3) := by decide +kernel
theorem dM_walkQueues_136 : decode prog_14_method_41_code 136 = .ok (.aload_n 0, 1) := by decide +kernel
theorem dM_walkQueues_137 : decode prog_14_method_41_code 137 = .ok (.getfield 206, 3) := by decide +kernel
theorem dM_walkQueues_140 : decode prog_14_method_41_code 140 = .ok (.ifCond .ne (17), 3) := by decide +kernel
theorem dM_walkQueues_143 : decode prog_14_method_41_code 143 = .ok (.iload 7, 2) := by decide +kernel
theorem dM_walkQueues_145 : decode prog_14_method_41_code 145 = .ok (.ifCond .ne (12), 3) := by decide +kernel
theorem dM_walkQueues_148 : decode prog_14_method_41_code 148 = .ok (.iconst (1), 1) := by decide +kernel
theorem dM_walkQueues_149 : decode prog_14_method_41_code 149 = .ok (.istore 4, 2) := by decide +kernel
theorem dM_walkQueues_151 : decode prog_14_method_41_code 151 = .ok (.aload_n 0, 1) := by decide +kernel
theorem dM_walkQueues_152 : decode prog_14_method_41_code 152 = .ok (.iload 5, 2) := by decide +kernel
theorem dM_walkQueues_154 : decode prog_14_method_41_code 154 = .ok (.putfield 225, 3) := by decide +kernel
theorem dM_walkQueues_157 : decode prog_14_method_41_code 157 = .ok (.iinc 5 (1), 3) := by decide +kernel
theorem dM_walkQueues_160 : decode prog_14_method_41_code 160 = .ok (.goto (-137), 3) := by decide +kernel
theorem dM_walkQueues_163 : decode prog_14_method_41_code 163 = .ok (.aload_n 0, 1) := by decide +kernel
theorem dM_walkQueues_164 : decode prog_14_method_41_code 164 = .ok (.getfield 228, 3) := by decide +kernel
theorem dM_walkQueues_167 : decode prog_14_method_41_code 167 = .ok (.ifCond .eq (7), 3) := by decide +kernel
theorem dM_walkQueues_170 : decode prog_14_method_41_code 170 = .ok (.iconst (3), 1) := by decide +kernel
theorem dM_walkQueues_171 : decode prog_14_method_41_code 171 = .ok (.goto (5), 3) := by decide +kernel
theorem dM_walkQueues_174 : decode prog_14_method_41_code 174 = .ok (.iload 4, 2) := by decide +kernel
theorem dM_walkQueues_176 : decode prog_14_method_41_code 176 = .ok (.ireturn, 1) := by decide +kernel
theorem dM_traceTo_0 : decode prog_14_method_29_code 0 = .ok (.aload_n 0, 1) := by decide +kernel
theorem dM_traceTo_1 : decode prog_14_method_29_code 1 = .ok (.iconst (0), 1) := by decide +kernel
theorem dM_traceTo_2 : decode prog_14_method_29_code 2 = .ok (.putfield 200, 3) := by decide +kernel
theorem dM_traceTo_5 : decode prog_14_method_29_code 5 = .ok (.iload_n 1, 1) := by decide +kernel
theorem dM_traceTo_6 : decode prog_14_method_29_code 6 = .ok (.istore_n 2, 1) := by decide +kernel
theorem dM_traceTo_7 : decode prog_14_method_29_code 7 = .ok (.iload_n 2, 1) := by decide +kernel
theorem dM_traceTo_8 : decode prog_14_method_29_code 8 = .ok (.ifCond .le (23), 3) := by decide +kernel
theorem dM_traceTo_11 : decode prog_14_method_29_code 11 = .ok (.aload_n 0, 1) := by decide +kernel
theorem dM_traceTo_12 : decode prog_14_method_29_code 12 = .ok (.dup, 1) := by decide +kernel
theorem dM_traceTo_13 : decode prog_14_method_29_code 13 = .ok (.getfield 200, 3) := by decide +kernel
theorem dM_traceTo_16 : decode prog_14_method_29_code 16 = .ok (.iconst (1), 1) := by decide +kernel
theorem dM_traceTo_17 : decode prog_14_method_29_code 17 = .ok (.iadd, 1) := by decide +kernel
theorem dM_traceTo_18 : decode prog_14_method_29_code 18 = .ok (.putfield 200, 3) := by decide +kernel
theorem dM_traceTo_21 : decode prog_14_method_29_code 21 = .ok (.aload_n 0, 1) := by decide +kernel
theorem dM_traceTo_22 : decode prog_14_method_29_code 22 = .ok (.getfield 85, 3) := by decide +kernel
theorem dM_traceTo_25 : decode prog_14_method_29_code 25 = .ok (.iload_n 2, 1) := by decide +kernel
theorem dM_traceTo_26 : decode prog_14_method_29_code 26 = .ok (.iaload, 1) := by decide +kernel
theorem dM_traceTo_27 : decode prog_14_method_29_code 27 = .ok (.istore_n 2, 1) := by decide +kernel
theorem dM_traceTo_28 : decode prog_14_method_29_code 28 = .ok (.goto (-21), 3) := by decide +kernel
theorem dM_traceTo_31 : decode prog_14_method_29_code 31 = .ok (.aload_n 0, 1) := by decide +kernel
theorem dM_traceTo_32 : decode prog_14_method_29_code 32 = .ok (.getfield 200, 3) := by decide +kernel
theorem dM_traceTo_35 : decode prog_14_method_29_code 35 = .ok (.istore_n 2, 1) := by decide +kernel
theorem dM_traceTo_36 : decode prog_14_method_29_code 36 = .ok (.iload_n 1, 1) := by decide +kernel
theorem dM_traceTo_37 : decode prog_14_method_29_code 37 = .ok (.istore_n 3, 1) := by decide +kernel
theorem dM_traceTo_38 : decode prog_14_method_29_code 38 = .ok (.iload_n 3, 1) := by decide +kernel
theorem dM_traceTo_39 : decode prog_14_method_29_code 39 = .ok (.ifCond .le (28), 3) := by decide +kernel
theorem dM_traceTo_42 : decode prog_14_method_29_code 42 = .ok (.iinc 2 (-1), 3) := by decide +kernel
theorem dM_traceTo_45 : decode prog_14_method_29_code 45 = .ok (.aload_n 0, 1) := by decide +kernel
theorem dM_traceTo_46 : decode prog_14_method_29_code 46 = .ok (.getfield 79, 3) := by decide +kernel
theorem dM_traceTo_49 : decode prog_14_method_29_code 49 = .ok (.iload_n 2, 1) := by decide +kernel
theorem dM_traceTo_50 : decode prog_14_method_29_code 50 = .ok (.aload_n 0, 1) := by decide +kernel
theorem dM_traceTo_51 : decode prog_14_method_29_code 51 = .ok (.getfield 88, 3) := by decide +kernel
theorem dM_traceTo_54 : decode prog_14_method_29_code 54 = .ok (.iload_n 3, 1) := by decide +kernel
theorem dM_traceTo_55 : decode prog_14_method_29_code 55 = .ok (.iaload, 1) := by decide +kernel
theorem dM_traceTo_56 : decode prog_14_method_29_code 56 = .ok (.iastore, 1) := by decide +kernel
theorem dM_traceTo_57 : decode prog_14_method_29_code 57 = .ok (.aload_n 0, 1) := by decide +kernel
theorem dM_traceTo_58 : decode prog_14_method_29_code 58 = .ok (.getfield 85, 3) := by decide +kernel
theorem dM_traceTo_61 : decode prog_14_method_29_code 61 = .ok (.iload_n 3, 1) := by decide +kernel
theorem dM_traceTo_62 : decode prog_14_method_29_code 62 = .ok (.iaload, 1) := by decide +kernel
theorem dM_traceTo_63 : decode prog_14_method_29_code 63 = .ok (.istore_n 3, 1) := by decide +kernel
theorem dM_traceTo_64 : decode prog_14_method_29_code 64 = .ok (.goto (-26), 3) := by decide +kernel
theorem dM_traceTo_67 : decode prog_14_method_29_code 67 = .ok (.return_, 1) := by decide +kernel
theorem dM_join_0 : decode prog_14_method_42_code 0 = .ok (.aload_n 0, 1) := by decide +kernel
theorem dM_join_1 : decode prog_14_method_42_code 1 = .ok (.iload_n 1, 1) := by decide +kernel
theorem dM_join_2 : decode prog_14_method_42_code 2 = .ok (.invokevirtual 180, 3) := by decide +kernel
theorem dM_join_5 : decode prog_14_method_42_code 5 = .ok (.ifCond .eq (11), 3) := by decide +kernel
theorem dM_join_8 : decode prog_14_method_42_code 8 = .ok (.aload_n 0, 1) := by decide +kernel
theorem dM_join_9 : decode prog_14_method_42_code 9 = .ok (.iload_n 2, 1) := by decide +kernel
theorem dM_join_10 : decode prog_14_method_42_code 10 = .ok (.invokevirtual 180, 3) := by decide +kernel
theorem dM_join_13 : decode prog_14_method_42_code 13 = .ok (.ifCond .ne (6), 3) := by decide +kernel
theorem dM_join_16 : decode prog_14_method_42_code 16 = .ok (.bipush (-101), 2) := by decide +kernel
theorem dM_join_18 : decode prog_14_method_42_code 18 = .ok (.ireturn, 1) := by decide +kernel
theorem dM_join_19 : decode prog_14_method_42_code 19 = .ok (.iload_n 3, 1) := by decide +kernel
theorem dM_join_20 : decode prog_14_method_42_code 20 = .ok (.iconst (0), 1) := by decide +kernel
theorem dM_join_21 : decode prog_14_method_42_code 21 = .ok (.iconst (2), 1) := by decide +kernel
theorem dM_join_22 : decode prog_14_method_42_code 22 = .ok (.invokestatic 148, 3) := by decide +kernel
theorem dM_join_25 : decode prog_14_method_42_code 25 = .ok (.ifCond .ne (6), 3) := by decide +kernel
theorem dM_join_28 : decode prog_14_method_42_code 28 = .ok (.bipush (-102), 2) := by decide +kernel
theorem dM_join_30 : decode prog_14_method_42_code 30 = .ok (.ireturn, 1) := by decide +kernel
theorem dM_join_31 : decode prog_14_method_42_code 31 = .ok (.iload_n 3, 1) := by decide +kernel
theorem dM_join_32 : decode prog_14_method_42_code 32 = .ok (.ifCond .le (15), 3) := by decide +kernel
theorem dM_join_35 : decode prog_14_method_42_code 35 = .ok (.aload_n 0, 1) := by decide +kernel
theorem dM_join_36 : decode prog_14_method_42_code 36 = .ok (.getfield 255, 3) := by decide +kernel
theorem dM_join_39 : decode prog_14_method_42_code 39 = .ok (.bipush (20), 2) := by decide +kernel
theorem dM_join_41 : decode prog_14_method_42_code 41 = .ok (.if_icmp .ne (6), 3) := by decide +kernel
theorem dM_join_44 : decode prog_14_method_42_code 44 = .ok (.bipush (-103), 2) := by decide +kernel
theorem dM_join_46 : decode prog_14_method_42_code 46 = .ok (.ireturn, 1) := by decide +kernel
theorem dM_join_47 : decode prog_14_method_42_code 47 = .ok (.aload_n 0, 1) := by decide +kernel
theorem dM_join_48 : decode prog_14_method_42_code 48 = .ok (.dup, 1) := by decide +kernel
theorem dM_join_49 : decode prog_14_method_42_code 49 = .ok (.getfield 255, 3) := by decide +kernel
theorem dM_join_52 : decode prog_14_method_42_code 52 = .ok (.iload_n 3, 1) := by decide +kernel
theorem dM_join_53 : decode prog_14_method_42_code 53 = .ok (.ifCond .le (7), 3) := by decide +kernel
theorem dM_join_56 : decode prog_14_method_42_code 56 = .ok (.iconst (1), 1) := by decide +kernel
theorem dM_join_57 : decode prog_14_method_42_code 57 = .ok (.goto (4), 3) := by decide +kernel
theorem dM_join_60 : decode prog_14_method_42_code 60 = .ok (.iconst (0), 1) := by decide +kernel
theorem dM_join_61 : decode prog_14_method_42_code 61 = .ok (.iadd, 1) := by decide +kernel
theorem dM_join_62 : decode prog_14_method_42_code 62 = .ok (.putfield 255, 3) := by decide +kernel
theorem dM_join_65 : decode prog_14_method_42_code 65 = .ok (.aload_n 0, 1) := by decide +kernel
theorem dM_join_66 : decode prog_14_method_42_code 66 = .ok (.invokevirtual 258, 3) := by decide +kernel
theorem dM_join_69 : decode prog_14_method_42_code 69 = .ok (.iload_n 3, 1) := by decide +kernel
theorem dM_join_70 : decode prog_14_method_42_code 70 = .ok (.ifCond .ne (13), 3) := by decide +kernel
theorem dM_join_73 : decode prog_14_method_42_code 73 = .ok (.aload_n 0, 1) := by decide +kernel
theorem dM_join_74 : decode prog_14_method_42_code 74 = .ok (.iload_n 1, 1) := by decide +kernel
theorem dM_join_75 : decode prog_14_method_42_code 75 = .ok (.iload_n 2, 1) := by decide +kernel
theorem dM_join_76 : decode prog_14_method_42_code 76 = .ok (.iconst (1), 1) := by decide +kernel
theorem dM_join_77 : decode prog_14_method_42_code 77 = .ok (.invokevirtual 261, 3) := by decide +kernel
theorem dM_join_80 : decode prog_14_method_42_code 80 = .ok (.goto (10), 3) := by decide +kernel
theorem dM_join_83 : decode prog_14_method_42_code 83 = .ok (.aload_n 0, 1) := by decide +kernel
theorem dM_join_84 : decode prog_14_method_42_code 84 = .ok (.iload_n 1, 1) := by decide +kernel
theorem dM_join_85 : decode prog_14_method_42_code 85 = .ok (.iload_n 2, 1) := by decide +kernel
theorem dM_join_86 : decode prog_14_method_42_code 86 = .ok (.iload_n 3, 1) := by decide +kernel
theorem dM_join_87 : decode prog_14_method_42_code 87 = .ok (.invokevirtual 265, 3) := by decide +kernel
theorem dM_join_90 : decode prog_14_method_42_code 90 = .ok (.istore 4, 2) := by decide +kernel
theorem dM_join_92 : decode prog_14_method_42_code 92 = .ok (.aload_n 0, 1) := by decide +kernel
theorem dM_join_93 : decode prog_14_method_42_code 93 = .ok (.aload_n 0, 1) := by decide +kernel
theorem dM_join_94 : decode prog_14_method_42_code 94 = .ok (.getfield 196, 3) := by decide +kernel
theorem dM_join_97 : decode prog_14_method_42_code 97 = .ok (.putfield 268, 3) := by decide +kernel
theorem dM_join_100 : decode prog_14_method_42_code 100 = .ok (.aload_n 0, 1) := by decide +kernel
theorem dM_join_101 : decode prog_14_method_42_code 101 = .ok (.iconst (0), 1) := by decide +kernel
theorem dM_join_102 : decode prog_14_method_42_code 102 = .ok (.putfield 200, 3) := by decide +kernel
theorem dM_join_105 : decode prog_14_method_42_code 105 = .ok (.iload 4, 2) := by decide +kernel
theorem dM_join_107 : decode prog_14_method_42_code 107 = .ok (.iconst (1), 1) := by decide +kernel
theorem dM_join_108 : decode prog_14_method_42_code 108 = .ok (.iconst (2), 1) := by decide +kernel
theorem dM_join_109 : decode prog_14_method_42_code 109 = .ok (.invokestatic 148, 3) := by decide +kernel
theorem dM_join_112 : decode prog_14_method_42_code 112 = .ok (.ifCond .eq (11), 3) := by decide +kernel
theorem dM_join_115 : decode prog_14_method_42_code 115 = .ok (.aload_n 0, 1) := by decide +kernel
theorem dM_join_116 : decode prog_14_method_42_code 116 = .ok (.aload_n 0, 1) := by decide +kernel
theorem dM_join_117 : decode prog_14_method_42_code 117 = .ok (.getfield 225, 3) := by decide +kernel
theorem dM_join_120 : decode prog_14_method_42_code 120 = .ok (.invokevirtual 271, 3) := by decide +kernel
theorem dM_join_123 : decode prog_14_method_42_code 123 = .ok (.iload 4, 2) := by decide +kernel
theorem dM_join_125 : decode prog_14_method_42_code 125 = .ok (.ireturn, 1) := by decide +kernel
theorem dC_walked_0 : decode prog_1_method_11_code 0 = .ok (.aload_n 0, 1) := by decide +kernel
theorem dC_walked_1 : decode prog_1_method_11_code 1 = .ok (.getfield 25, 3) := by decide +kernel
theorem dC_walked_4 : decode prog_1_method_11_code 4 = .ok (.getfield 126, 3) := by decide +kernel
theorem dC_walked_7 : decode prog_1_method_11_code 7 = .ok (.ireturn, 1) := by decide +kernel
theorem dM_walked_0 : decode prog_14_method_43_code 0 = .ok (.aload_n 0, 1) := by decide +kernel
theorem dM_walked_1 : decode prog_14_method_43_code 1 = .ok (.getfield 268, 3) := by decide +kernel
theorem dM_walked_4 : decode prog_14_method_43_code 4 = .ok (.ireturn, 1) := by decide +kernel
theorem dWa_stepToFault_0 : decode prog_11_method_3_code 0 = .ok (.iload_n 1, 1) := by decide +kernel
theorem dWa_stepToFault_1 : decode prog_11_method_3_code 1 = .ok (.ifCond .lt (11), 3) := by decide +kernel
theorem dWa_stepToFault_4 : decode prog_11_method_3_code 4 = .ok (.iload_n 1, 1) := by decide +kernel
theorem dWa_stepToFault_5 : decode prog_11_method_3_code 5 = .ok (.aload_n 0, 1) := by decide +kernel
theorem dWa_stepToFault_6 : decode prog_11_method_3_code 6 = .ok (.getfield 41, 3) := by decide +kernel
theorem dWa_stepToFault_9 : decode prog_11_method_3_code 9 = .ok (.if_icmp .lt (7), 3) := by decide +kernel
theorem dWa_stepToFault_12 : decode prog_11_method_3_code 12 = .ok (.iconst (-1), 1) := by decide +kernel
theorem dWa_stepToFault_13 : decode prog_11_method_3_code 13 = .ok (.goto (9), 3) := by decide +kernel
theorem dWa_stepToFault_16 : decode prog_11_method_3_code 16 = .ok (.aload_n 0, 1) := by decide +kernel
theorem dWa_stepToFault_17 : decode prog_11_method_3_code 17 = .ok (.getfield 24, 3) := by decide +kernel
theorem dWa_stepToFault_20 : decode prog_11_method_3_code 20 = .ok (.iload_n 1, 1) := by decide +kernel
theorem dWa_stepToFault_21 : decode prog_11_method_3_code 21 = .ok (.iaload, 1) := by decide +kernel
theorem dWa_stepToFault_22 : decode prog_11_method_3_code 22 = .ok (.ireturn, 1) := by decide +kernel
theorem dC_trace_0 : decode prog_1_method_12_code 0 = .ok (.aload_n 0, 1) := by decide +kernel
theorem dC_trace_1 : decode prog_1_method_12_code 1 = .ok (.getfield 25, 3) := by decide +kernel
theorem dC_trace_4 : decode prog_1_method_12_code 4 = .ok (.iload_n 1, 1) := by decide +kernel
theorem dC_trace_5 : decode prog_1_method_12_code 5 = .ok (.invokevirtual 127, 3) := by decide +kernel
theorem dC_trace_8 : decode prog_1_method_12_code 8 = .ok (.ireturn, 1) := by decide +kernel
theorem dM_trace_0 : decode prog_14_method_44_code 0 = .ok (.iload_n 1, 1) := by decide +kernel
theorem dM_trace_1 : decode prog_14_method_44_code 1 = .ok (.iconst (0), 1) := by decide +kernel
theorem dM_trace_2 : decode prog_14_method_44_code 2 = .ok (.aload_n 0, 1) := by decide +kernel
theorem dM_trace_3 : decode prog_14_method_44_code 3 = .ok (.getfield 200, 3) := by decide +kernel
theorem dM_trace_6 : decode prog_14_method_44_code 6 = .ok (.iconst (1), 1) := by decide +kernel
theorem dM_trace_7 : decode prog_14_method_44_code 7 = .ok (.isub, 1) := by decide +kernel
theorem dM_trace_8 : decode prog_14_method_44_code 8 = .ok (.invokestatic 148, 3) := by decide +kernel
theorem dM_trace_11 : decode prog_14_method_44_code 11 = .ok (.ifCond .eq (12), 3) := by decide +kernel
theorem dM_trace_14 : decode prog_14_method_44_code 14 = .ok (.aload_n 0, 1) := by decide +kernel
theorem dM_trace_15 : decode prog_14_method_44_code 15 = .ok (.getfield 79, 3) := by decide +kernel
theorem dM_trace_18 : decode prog_14_method_44_code 18 = .ok (.iload_n 1, 1) := by decide +kernel
theorem dM_trace_19 : decode prog_14_method_44_code 19 = .ok (.iaload, 1) := by decide +kernel
theorem dM_trace_20 : decode prog_14_method_44_code 20 = .ok (.goto (4), 3) := by decide +kernel
theorem dM_trace_23 : decode prog_14_method_44_code 23 = .ok (.iconst (-1), 1) := by decide +kernel
theorem dM_trace_24 : decode prog_14_method_44_code 24 = .ok (.ireturn, 1) := by decide +kernel
theorem dFi_holds_0 : decode prog_3_method_3_code 0 = .ok (.aload_n 0, 1) := by decide +kernel
theorem dFi_holds_1 : decode prog_3_method_3_code 1 = .ok (.getfield 9, 3) := by decide +kernel
theorem dFi_holds_4 : decode prog_3_method_3_code 4 = .ok (.iload_n 1, 1) := by decide +kernel
theorem dFi_holds_5 : decode prog_3_method_3_code 5 = .ok (.iaload, 1) := by decide +kernel
theorem dFi_holds_6 : decode prog_3_method_3_code 6 = .ok (.iload_n 2, 1) := by decide +kernel
theorem dFi_holds_7 : decode prog_3_method_3_code 7 = .ok (.invokestatic 38, 3) := by decide +kernel
theorem dFi_holds_10 : decode prog_3_method_3_code 10 = .ok (.ireturn, 1) := by decide +kernel
theorem dFi_fitsNow_0 : decode prog_3_method_5_code 0 = .ok (.aload_n 0, 1) := by decide +kernel
theorem dFi_fitsNow_1 : decode prog_3_method_5_code 1 = .ok (.getfield 19, 3) := by decide +kernel
theorem dFi_fitsNow_4 : decode prog_3_method_5_code 4 = .ok (.getfield 51, 3) := by decide +kernel
theorem dFi_fitsNow_7 : decode prog_3_method_5_code 7 = .ok (.iload_n 2, 1) := by decide +kernel
theorem dFi_fitsNow_8 : decode prog_3_method_5_code 8 = .ok (.iaload, 1) := by decide +kernel
theorem dFi_fitsNow_9 : decode prog_3_method_5_code 9 = .ok (.aload_n 0, 1) := by decide +kernel
theorem dFi_fitsNow_10 : decode prog_3_method_5_code 10 = .ok (.getfield 15, 3) := by decide +kernel
theorem dFi_fitsNow_13 : decode prog_3_method_5_code 13 = .ok (.getfield 51, 3) := by decide +kernel
theorem dFi_fitsNow_16 : decode prog_3_method_5_code 16 = .ok (.iload_n 1, 1) := by decide +kernel
theorem dFi_fitsNow_17 : decode prog_3_method_5_code 17 = .ok (.iaload, 1) := by decide +kernel
theorem dFi_fitsNow_18 : decode prog_3_method_5_code 18 = .ok (.iconst (-1), 1) := by decide +kernel
theorem dFi_fitsNow_19 : decode prog_3_method_5_code 19 = .ok (.ixor, 1) := by decide +kernel
theorem dFi_fitsNow_20 : decode prog_3_method_5_code 20 = .ok (.iand, 1) := by decide +kernel
theorem dFi_fitsNow_21 : decode prog_3_method_5_code 21 = .ok (.ifCond .ne (27), 3) := by decide +kernel
theorem dFi_fitsNow_24 : decode prog_3_method_5_code 24 = .ok (.aload_n 0, 1) := by decide +kernel
theorem dFi_fitsNow_25 : decode prog_3_method_5_code 25 = .ok (.getfield 15, 3) := by decide +kernel
theorem dFi_fitsNow_28 : decode prog_3_method_5_code 28 = .ok (.getfield 54, 3) := by decide +kernel
theorem dFi_fitsNow_31 : decode prog_3_method_5_code 31 = .ok (.iload_n 1, 1) := by decide +kernel
theorem dFi_fitsNow_32 : decode prog_3_method_5_code 32 = .ok (.iaload, 1) := by decide +kernel
theorem dFi_fitsNow_33 : decode prog_3_method_5_code 33 = .ok (.aload_n 0, 1) := by decide +kernel
theorem dFi_fitsNow_34 : decode prog_3_method_5_code 34 = .ok (.getfield 19, 3) := by decide +kernel
theorem dFi_fitsNow_37 : decode prog_3_method_5_code 37 = .ok (.getfield 54, 3) := by decide +kernel
theorem dFi_fitsNow_40 : decode prog_3_method_5_code 40 = .ok (.iload_n 2, 1) := by decide +kernel
theorem dFi_fitsNow_41 : decode prog_3_method_5_code 41 = .ok (.iaload, 1) := by decide +kernel
theorem dFi_fitsNow_42 : decode prog_3_method_5_code 42 = .ok (.iconst (-1), 1) := by decide +kernel
theorem dFi_fitsNow_43 : decode prog_3_method_5_code 43 = .ok (.ixor, 1) := by decide +kernel
theorem dFi_fitsNow_44 : decode prog_3_method_5_code 44 = .ok (.iand, 1) := by decide +kernel
theorem dFi_fitsNow_45 : decode prog_3_method_5_code 45 = .ok (.ifCond .eq (5), 3) := by decide +kernel
theorem dFi_fitsNow_48 : decode prog_3_method_5_code 48 = .ok (.iconst (0), 1) := by decide +kernel
theorem dFi_fitsNow_49 : decode prog_3_method_5_code 49 = .ok (.ireturn, 1) := by decide +kernel
theorem dFi_fitsNow_50 : decode prog_3_method_5_code 50 = .ok (.aload_n 0, 1) := by decide +kernel
theorem dFi_fitsNow_51 : decode prog_3_method_5_code 51 = .ok (.getfield 15, 3) := by decide +kernel
theorem dFi_fitsNow_54 : decode prog_3_method_5_code 54 = .ok (.getfield 54, 3) := by decide +kernel
theorem dFi_fitsNow_57 : decode prog_3_method_5_code 57 = .ok (.iload_n 1, 1) := by decide +kernel
theorem dFi_fitsNow_58 : decode prog_3_method_5_code 58 = .ok (.iaload, 1) := by decide +kernel
theorem dFi_fitsNow_59 : decode prog_3_method_5_code 59 = .ok (.ifCond .ne (17), 3) := by decide +kernel
theorem dFi_fitsNow_62 : decode prog_3_method_5_code 62 = .ok (.aload_n 0, 1) := by decide +kernel
theorem dFi_fitsNow_63 : decode prog_3_method_5_code 63 = .ok (.getfield 19, 3) := by decide +kernel
theorem dFi_fitsNow_66 : decode prog_3_method_5_code 66 = .ok (.getfield 54, 3) := by decide +kernel
theorem dFi_fitsNow_69 : decode prog_3_method_5_code 69 = .ok (.iload_n 2, 1) := by decide +kernel
theorem dFi_fitsNow_70 : decode prog_3_method_5_code 70 = .ok (.iaload, 1) := by decide +kernel
theorem dFi_fitsNow_71 : decode prog_3_method_5_code 71 = .ok (.ifCond .eq (5), 3) := by decide +kernel
theorem dFi_fitsNow_74 : decode prog_3_method_5_code 74 = .ok (.iconst (0), 1) := by decide +kernel
theorem dFi_fitsNow_75 : decode prog_3_method_5_code 75 = .ok (.ireturn, 1) := by decide +kernel
theorem dFi_fitsNow_76 : decode prog_3_method_5_code 76 = .ok (.aload_n 0, 1) := by decide +kernel
theorem dFi_fitsNow_77 : decode prog_3_method_5_code 77 = .ok (.getfield 15, 3) := by decide +kernel
theorem dFi_fitsNow_80 : decode prog_3_method_5_code 80 = .ok (.iload_n 1, 1) := by decide +kernel
theorem dFi_fitsNow_81 : decode prog_3_method_5_code 81 = .ok (.invokevirtual 57, 3) := by decide +kernel
theorem dFi_fitsNow_84 : decode prog_3_method_5_code 84 = .ok (.aload_n 0, 1) := by decide +kernel
theorem dFi_fitsNow_85 : decode prog_3_method_5_code 85 = .ok (.getfield 19, 3) := by decide +kernel
theorem dFi_fitsNow_88 : decode prog_3_method_5_code 88 = .ok (.iload_n 2, 1) := by decide +kernel
theorem dFi_fitsNow_89 : decode prog_3_method_5_code 89 = .ok (.invokevirtual 57, 3) := by decide +kernel
theorem dFi_fitsNow_92 : decode prog_3_method_5_code 92 = .ok (.if_icmp .ne (7), 3) := by decide +kernel
theorem dFi_fitsNow_95 : decode prog_3_method_5_code 95 = .ok (.iconst (1), 1) := by decide +kernel
theorem dFi_fitsNow_96 : decode prog_3_method_5_code 96 = .ok (.goto (4), 3) := by decide +kernel
theorem dFi_fitsNow_99 : decode prog_3_method_5_code 99 = .ok (.iconst (0), 1) := by decide +kernel
theorem dFi_fitsNow_100 : decode prog_3_method_5_code 100 = .ok (.ireturn, 1) := by decide +kernel
theorem dFi_fitsLater_0 : decode prog_3_method_6_code 0 = .ok (.iconst (0), 1) := by decide +kernel
theorem dFi_fitsLater_1 : decode prog_3_method_6_code 1 = .ok (.istore_n 3, 1) := by decide +kernel
theorem dFi_fitsLater_2 : decode prog_3_method_6_code 2 = .ok (.iload_n 3, 1) := by decide +kernel
theorem dFi_fitsLater_3 : decode prog_3_method_6_code 3 = .ok (.bipush (8), 2) := by decide +kernel
theorem dFi_fitsLater_5 : decode prog_3_method_6_code 5 = .ok (.if_icmp .ge (99), 3) := by decide +kernel
theorem dFi_fitsLater_8 : decode prog_3_method_6_code 8 = .ok (.aload_n 0, 1) := by decide +kernel
theorem dFi_fitsLater_9 : decode prog_3_method_6_code 9 = .ok (.getfield 19, 3) := by decide +kernel
theorem dFi_fitsLater_12 : decode prog_3_method_6_code 12 = .ok (.getfield 51, 3) := by decide +kernel
theorem dFi_fitsLater_15 : decode prog_3_method_6_code 15 = .ok (.iload_n 2, 1) := by decide +kernel
theorem dFi_fitsLater_16 : decode prog_3_method_6_code 16 = .ok (.iaload, 1) := by decide +kernel
theorem dFi_fitsLater_17 : decode prog_3_method_6_code 17 = .ok (.iload_n 3, 1) := by decide +kernel
theorem dFi_fitsLater_18 : decode prog_3_method_6_code 18 = .ok (.invokestatic 38, 3) := by decide +kernel
theorem dFi_fitsLater_21 : decode prog_3_method_6_code 21 = .ok (.ifCond .eq (32), 3) := by decide +kernel
theorem dFi_fitsLater_24 : decode prog_3_method_6_code 24 = .ok (.aload_n 0, 1) := by decide +kernel
theorem dFi_fitsLater_25 : decode prog_3_method_6_code 25 = .ok (.aload_n 0, 1) := by decide +kernel
theorem dFi_fitsLater_26 : decode prog_3_method_6_code 26 = .ok (.getfield 15, 3) := by decide +kernel
theorem dFi_fitsLater_29 : decode prog_3_method_6_code 29 = .ok (.iload_n 1, 1) := by decide +kernel
theorem dFi_fitsLater_30 : decode prog_3_method_6_code 30 = .ok (.iconst (0), 1) := by decide +kernel
theorem dFi_fitsLater_31 : decode prog_3_method_6_code 31 = .ok (.iload_n 3, 1) := by decide +kernel
theorem dFi_fitsLater_32 : decode prog_3_method_6_code 32 = .ok (.invokevirtual 61, 3) := by decide +kernel
theorem dFi_fitsLater_35 : decode prog_3_method_6_code 35 = .ok (.aload_n 0, 1) := by decide +kernel
theorem dFi_fitsLater_36 : decode prog_3_method_6_code 36 = .ok (.getfield 19, 3) := by decide +kernel
theorem dFi_fitsLater_39 : decode prog_3_method_6_code 39 = .ok (.iload_n 2, 1) := by decide +kernel
theorem dFi_fitsLater_40 : decode prog_3_method_6_code 40 = .ok (.iconst (0), 1) := by decide +kernel
theorem dFi_fitsLater_41 : decode prog_3_method_6_code 41 = .ok (.iload_n 3, 1) := by decide +kernel
theorem dFi_fitsLater_42 : decode prog_3_method_6_code 42 = .ok (.invokevirtual 61, 3) := by decide +kernel
theorem dFi_fitsLater_45 : decode prog_3_method_6_code 45 = .ok (.invokevirtual 42, 3) := by decide +kernel
theorem dFi_fitsLater_48 : decode prog_3_method_6_code 48 = .ok (.ifCond .ne (5), 3) := by decide +kernel
theorem dFi_fitsLater_51 : decode prog_3_method_6_code 51 = .ok (.iconst (0), 1) := by decide +kernel
theorem dFi_fitsLater_52 : decode prog_3_method_6_code 52 = .ok (.ireturn, 1) := by decide +kernel
theorem dFi_fitsLater_53 : decode prog_3_method_6_code 53 = .ok (.aload_n 0, 1) := by decide +kernel
theorem dFi_fitsLater_54 : decode prog_3_method_6_code 54 = .ok (.getfield 15, 3) := by decide +kernel
theorem dFi_fitsLater_57 : decode prog_3_method_6_code 57 = .ok (.getfield 54, 3) := by decide +kernel
theorem dFi_fitsLater_60 : decode prog_3_method_6_code 60 = .ok (.iload_n 1, 1) := by decide +kernel
theorem dFi_fitsLater_61 : decode prog_3_method_6_code 61 = .ok (.iaload, 1) := by decide +kernel
theorem dFi_fitsLater_62 : decode prog_3_method_6_code 62 = .ok (.iload_n 3, 1) := by decide +kernel
theorem dFi_fitsLater_63 : decode prog_3_method_6_code 63 = .ok (.invokestatic 38, 3) := by decide +kernel
theorem dFi_fitsLater_66 : decode prog_3_method_6_code 66 = .ok (.ifCond .eq (32), 3) := by decide +kernel
theorem dFi_fitsLater_69 : decode prog_3_method_6_code 69 = .ok (.aload_n 0, 1) := by decide +kernel
theorem dFi_fitsLater_70 : decode prog_3_method_6_code 70 = .ok (.aload_n 0, 1) := by decide +kernel
theorem dFi_fitsLater_71 : decode prog_3_method_6_code 71 = .ok (.getfield 15, 3) := by decide +kernel
theorem dFi_fitsLater_74 : decode prog_3_method_6_code 74 = .ok (.iload_n 1, 1) := by decide +kernel
theorem dFi_fitsLater_75 : decode prog_3_method_6_code 75 = .ok (.iconst (1), 1) := by decide +kernel
theorem dFi_fitsLater_76 : decode prog_3_method_6_code 76 = .ok (.iload_n 3, 1) := by decide +kernel
theorem dFi_fitsLater_77 : decode prog_3_method_6_code 77 = .ok (.invokevirtual 61, 3) := by decide +kernel
theorem dFi_fitsLater_80 : decode prog_3_method_6_code 80 = .ok (.aload_n 0, 1) := by decide +kernel
theorem dFi_fitsLater_81 : decode prog_3_method_6_code 81 = .ok (.getfield 19, 3) := by decide +kernel
theorem dFi_fitsLater_84 : decode prog_3_method_6_code 84 = .ok (.iload_n 2, 1) := by decide +kernel
theorem dFi_fitsLater_85 : decode prog_3_method_6_code 85 = .ok (.iconst (1), 1) := by decide +kernel
theorem dFi_fitsLater_86 : decode prog_3_method_6_code 86 = .ok (.iload_n 3, 1) := by decide +kernel
theorem dFi_fitsLater_87 : decode prog_3_method_6_code 87 = .ok (.invokevirtual 61, 3) := by decide +kernel
theorem dFi_fitsLater_90 : decode prog_3_method_6_code 90 = .ok (.invokevirtual 42, 3) := by decide +kernel
theorem dFi_fitsLater_93 : decode prog_3_method_6_code 93 = .ok (.ifCond .ne (5), 3) := by decide +kernel
theorem dFi_fitsLater_96 : decode prog_3_method_6_code 96 = .ok (.iconst (0), 1) := by decide +kernel
theorem dFi_fitsLater_97 : decode prog_3_method_6_code 97 = .ok (.ireturn, 1) := by decide +kernel
theorem dFi_fitsLater_98 : decode prog_3_method_6_code 98 = .ok (.iinc 3 (1), 3) := by decide +kernel
theorem dFi_fitsLater_101 : decode prog_3_method_6_code 101 = .ok (.goto (-99), 3) := by decide +kernel
theorem dFi_fitsLater_104 : decode prog_3_method_6_code 104 = .ok (.iconst (1), 1) := by decide +kernel
theorem dFi_fitsLater_105 : decode prog_3_method_6_code 105 = .ok (.ireturn, 1) := by decide +kernel
theorem dFi_dropsSome_0 : decode prog_3_method_4_code 0 = .ok (.iconst (0), 1) := by decide +kernel
theorem dFi_dropsSome_1 : decode prog_3_method_4_code 1 = .ok (.istore_n 1, 1) := by decide +kernel
theorem dFi_dropsSome_2 : decode prog_3_method_4_code 2 = .ok (.iconst (0), 1) := by decide +kernel
theorem dFi_dropsSome_3 : decode prog_3_method_4_code 3 = .ok (.istore_n 2, 1) := by decide +kernel
theorem dFi_dropsSome_4 : decode prog_3_method_4_code 4 = .ok (.iload_n 2, 1) := by decide +kernel
theorem dFi_dropsSome_5 : decode prog_3_method_4_code 5 = .ok (.aload_n 0, 1) := by decide +kernel
theorem dFi_dropsSome_6 : decode prog_3_method_4_code 6 = .ok (.getfield 15, 3) := by decide +kernel
theorem dFi_dropsSome_9 : decode prog_3_method_4_code 9 = .ok (.getfield 22, 3) := by decide +kernel
theorem dFi_dropsSome_12 : decode prog_3_method_4_code 12 = .ok (.if_icmp .gt (71), 3) := by decide +kernel
theorem dFi_dropsSome_15 : decode prog_3_method_4_code 15 = .ok (.iconst (0), 1) := by decide +kernel
theorem dFi_dropsSome_16 : decode prog_3_method_4_code 16 = .ok (.istore_n 3, 1) := by decide +kernel
theorem dFi_dropsSome_17 : decode prog_3_method_4_code 17 = .ok (.iload_n 3, 1) := by decide +kernel
theorem dFi_dropsSome_18 : decode prog_3_method_4_code 18 = .ok (.aload_n 0, 1) := by decide +kernel
theorem dFi_dropsSome_19 : decode prog_3_method_4_code 19 = .ok (.getfield 19, 3) := by decide +kernel
theorem dFi_dropsSome_22 : decode prog_3_method_4_code 22 = .ok (.getfield 22, 3) := by decide +kernel
theorem dFi_dropsSome_25 : decode prog_3_method_4_code 25 = .ok (.if_icmp .gt (52), 3) := by decide +kernel
theorem dFi_dropsSome_28 : decode prog_3_method_4_code 28 = .ok (.aload_n 0, 1) := by decide +kernel
theorem dFi_dropsSome_29 : decode prog_3_method_4_code 29 = .ok (.iload_n 2, 1) := by decide +kernel
theorem dFi_dropsSome_30 : decode prog_3_method_4_code 30 = .ok (.iload_n 3, 1) := by decide +kernel
theorem dFi_dropsSome_31 : decode prog_3_method_4_code 31 = .ok (.invokevirtual 42, 3) := by decide +kernel
theorem dFi_dropsSome_34 : decode prog_3_method_4_code 34 = .ok (.ifCond .eq (37), 3) := by decide +kernel
theorem dFi_dropsSome_37 : decode prog_3_method_4_code 37 = .ok (.aload_n 0, 1) := by decide +kernel
theorem dFi_dropsSome_38 : decode prog_3_method_4_code 38 = .ok (.iload_n 2, 1) := by decide +kernel
theorem dFi_dropsSome_39 : decode prog_3_method_4_code 39 = .ok (.iload_n 3, 1) := by decide +kernel
theorem dFi_dropsSome_40 : decode prog_3_method_4_code 40 = .ok (.invokevirtual 45, 3) := by decide +kernel
theorem dFi_dropsSome_43 : decode prog_3_method_4_code 43 = .ok (.ifCond .eq (12), 3) := by decide +kernel
theorem dFi_dropsSome_46 : decode prog_3_method_4_code 46 = .ok (.aload_n 0, 1) := by decide +kernel
theorem dFi_dropsSome_47 : decode prog_3_method_4_code 47 = .ok (.iload_n 2, 1) := by decide +kernel
theorem dFi_dropsSome_48 : decode prog_3_method_4_code 48 = .ok (.iload_n 3, 1) := by decide +kernel
theorem dFi_dropsSome_49 : decode prog_3_method_4_code 49 = .ok (.invokevirtual 48, 3) := by decide +kernel
theorem dFi_dropsSome_52 : decode prog_3_method_4_code 52 = .ok (.ifCond .ne (19), 3) := by decide +kernel
theorem dFi_dropsSome_55 : decode prog_3_method_4_code 55 = .ok (.aload_n 0, 1) := by decide +kernel
theorem dFi_dropsSome_56 : decode prog_3_method_4_code 56 = .ok (.getfield 9, 3) := by decide +kernel
theorem dFi_dropsSome_59 : decode prog_3_method_4_code 59 = .ok (.iload_n 2, 1) := by decide +kernel
theorem dFi_dropsSome_60 : decode prog_3_method_4_code 60 = .ok (.dup2, 1) := by decide +kernel
theorem dFi_dropsSome_61 : decode prog_3_method_4_code 61 = .ok (.iaload, 1) := by decide +kernel
theorem dFi_dropsSome_62 : decode prog_3_method_4_code 62 = .ok (.iconst (1), 1) := by decide +kernel
theorem dFi_dropsSome_63 : decode prog_3_method_4_code 63 = .ok (.iload_n 3, 1) := by decide +kernel
theorem dFi_dropsSome_64 : decode prog_3_method_4_code 64 = .ok (.ishl, 1) := by decide +kernel
theorem dFi_dropsSome_65 : decode prog_3_method_4_code 65 = .ok (.iconst (-1), 1) := by decide +kernel
theorem dFi_dropsSome_66 : decode prog_3_method_4_code 66 = .ok (.ixor, 1) := by decide +kernel
theorem dFi_dropsSome_67 : decode prog_3_method_4_code 67 = .ok (.iand, 1) := by decide +kernel
theorem dFi_dropsSome_68 : decode prog_3_method_4_code 68 = .ok (.iastore, 1) := by decide +kernel
theorem dFi_dropsSome_69 : decode prog_3_method_4_code 69 = .ok (.iconst (1), 1) := by decide +kernel
theorem dFi_dropsSome_70 : decode prog_3_method_4_code 70 = .ok (.istore_n 1, 1) := by decide +kernel
theorem dFi_dropsSome_71 : decode prog_3_method_4_code 71 = .ok (.iinc 3 (1), 3) := by decide +kernel
theorem dFi_dropsSome_74 : decode prog_3_method_4_code 74 = .ok (.goto (-57), 3) := by decide +kernel
theorem dFi_dropsSome_77 : decode prog_3_method_4_code 77 = .ok (.iinc 2 (1), 3) := by decide +kernel
theorem dFi_dropsSome_80 : decode prog_3_method_4_code 80 = .ok (.goto (-76), 3) := by decide +kernel
theorem dFi_dropsSome_83 : decode prog_3_method_4_code 83 = .ok (.iload_n 1, 1) := by decide +kernel
theorem dFi_dropsSome_84 : decode prog_3_method_4_code 84 = .ok (.ireturn, 1) := by decide +kernel
theorem dFi_compare_0 : decode prog_3_method_2_code 0 = .ok (.aload_n 0, 1) := by decide +kernel
theorem dFi_compare_1 : decode prog_3_method_2_code 1 = .ok (.aload_n 1, 1) := by decide +kernel
theorem dFi_compare_2 : decode prog_3_method_2_code 2 = .ok (.putfield 15, 3) := by decide +kernel
theorem dFi_compare_5 : decode prog_3_method_2_code 5 = .ok (.aload_n 0, 1) := by decide +kernel
theorem dFi_compare_6 : decode prog_3_method_2_code 6 = .ok (.aload_n 2, 1) := by decide +kernel
theorem dFi_compare_7 : decode prog_3_method_2_code 7 = .ok (.putfield 19, 3) := by decide +kernel
theorem dFi_compare_10 : decode prog_3_method_2_code 10 = .ok (.aload_n 0, 1) := by decide +kernel
theorem dFi_compare_11 : decode prog_3_method_2_code 11 = .ok (.getfield 9, 3) := by decide +kernel
theorem dFi_compare_14 : decode prog_3_method_2_code 14 = .ok (.iconst (1), 1) := by decide +kernel
theorem dFi_compare_15 : decode prog_3_method_2_code 15 = .ok (.aload_n 0, 1) := by decide +kernel
theorem dFi_compare_16 : decode prog_3_method_2_code 16 = .ok (.getfield 19, 3) := by decide +kernel
theorem dFi_compare_19 : decode prog_3_method_2_code 19 = .ok (.getfield 22, 3) := by decide +kernel
theorem dFi_compare_22 : decode prog_3_method_2_code 22 = .ok (.iconst (1), 1) := by decide +kernel
theorem dFi_compare_23 : decode prog_3_method_2_code 23 = .ok (.iadd, 1) := by decide +kernel
theorem dFi_compare_24 : decode prog_3_method_2_code 24 = .ok (.ishl, 1) := by decide +kernel
theorem dFi_compare_25 : decode prog_3_method_2_code 25 = .ok (.iconst (1), 1) := by decide +kernel
theorem dFi_compare_26 : decode prog_3_method_2_code 26 = .ok (.isub, 1) := by decide +kernel
theorem dFi_compare_27 : decode prog_3_method_2_code 27 = .ok (.invokestatic 28, 3) := by decide +kernel
theorem dFi_compare_30 : decode prog_3_method_2_code 30 = .ok (.iconst (1), 1) := by decide +kernel
theorem dFi_compare_31 : decode prog_3_method_2_code 31 = .ok (.istore_n 3, 1) := by decide +kernel
theorem dFi_compare_32 : decode prog_3_method_2_code 32 = .ok (.iconst (0), 1) := by decide +kernel
theorem dFi_compare_33 : decode prog_3_method_2_code 33 = .ok (.istore 4, 2) := by decide +kernel
theorem dFi_compare_35 : decode prog_3_method_2_code 35 = .ok (.iload 4, 2) := by decide +kernel
theorem dFi_compare_37 : decode prog_3_method_2_code 37 = .ok (.sipush (625), 3) := by decide +kernel
theorem dFi_compare_40 : decode prog_3_method_2_code 40 = .ok (.if_icmp .gt (18), 3) := by decide +kernel
theorem dFi_compare_43 : decode prog_3_method_2_code 43 = .ok (.iload_n 3, 1) := by decide +kernel
theorem dFi_compare_44 : decode prog_3_method_2_code 44 = .ok (.ifCond .eq (14), 3) := by decide +kernel
theorem dFi_compare_47 : decode prog_3_method_2_code 47 = .ok (.aload_n 0, 1) := by decide +kernel
theorem dFi_compare_48 : decode prog_3_method_2_code 48 = .ok (.invokevirtual 34, 3) := by decide +kernel
theorem dFi_compare_51 : decode prog_3_method_2_code 51 = .ok (.istore_n 3, 1) := by decide +kernel
theorem dFi_compare_52 : decode prog_3_method_2_code 52 = .ok (.iinc 4 (1), 3) := by decide +kernel
theorem dFi_compare_55 : decode prog_3_method_2_code 55 = .ok (.goto (-20), 3) := by decide +kernel
theorem dFi_compare_58 : decode prog_3_method_2_code 58 = .ok (.return_, 1) := by decide +kernel
theorem dC_fit_0 : decode prog_1_method_13_code 0 = .ok (.aload_n 0, 1) := by decide +kernel
theorem dC_fit_1 : decode prog_1_method_13_code 1 = .ok (.iload_n 1, 1) := by decide +kernel
theorem dC_fit_2 : decode prog_1_method_13_code 2 = .ok (.invokevirtual 93, 3) := by decide +kernel
theorem dC_fit_5 : decode prog_1_method_13_code 5 = .ok (.astore_n 3, 1) := by decide +kernel
theorem dC_fit_6 : decode prog_1_method_13_code 6 = .ok (.aload_n 0, 1) := by decide +kernel
theorem dC_fit_7 : decode prog_1_method_13_code 7 = .ok (.iload_n 2, 1) := by decide +kernel
theorem dC_fit_8 : decode prog_1_method_13_code 8 = .ok (.invokevirtual 93, 3) := by decide +kernel
theorem dC_fit_11 : decode prog_1_method_13_code 11 = .ok (.astore 4, 2) := by decide +kernel
theorem dC_fit_13 : decode prog_1_method_13_code 13 = .ok (.aload_n 3, 1) := by decide +kernel
theorem dC_fit_14 : decode prog_1_method_13_code 14 = .ok (.ifnull (8), 3) := by decide +kernel
theorem dC_fit_17 : decode prog_1_method_13_code 17 = .ok (.aload 4, 2) := by decide +kernel
theorem dC_fit_19 : decode prog_1_method_13_code 19 = .ok (.ifnonnull (6), 3) := by decide +kernel
theorem dC_fit_22 : decode prog_1_method_13_code 22 = .ok (.bipush (-101), 2) := by decide +kernel
theorem dC_fit_24 : decode prog_1_method_13_code 24 = .ok (.ireturn, 1) := by decide +kernel
theorem dC_fit_25 : decode prog_1_method_13_code 25 = .ok (.aload_n 0, 1) := by decide +kernel
theorem dC_fit_26 : decode prog_1_method_13_code 26 = .ok (.getfield 32, 3) := by decide +kernel
theorem dC_fit_29 : decode prog_1_method_13_code 29 = .ok (.aload_n 3, 1) := by decide +kernel
theorem dC_fit_30 : decode prog_1_method_13_code 30 = .ok (.aload 4, 2) := by decide +kernel
theorem dC_fit_32 : decode prog_1_method_13_code 32 = .ok (.invokevirtual 130, 3) := by decide +kernel
theorem dC_fit_35 : decode prog_1_method_13_code 35 = .ok (.aload_n 0, 1) := by decide +kernel
theorem dC_fit_36 : decode prog_1_method_13_code 36 = .ok (.getfield 32, 3) := by decide +kernel
theorem dC_fit_39 : decode prog_1_method_13_code 39 = .ok (.iconst (0), 1) := by decide +kernel
theorem dC_fit_40 : decode prog_1_method_13_code 40 = .ok (.iconst (0), 1) := by decide +kernel
theorem dC_fit_41 : decode prog_1_method_13_code 41 = .ok (.invokevirtual 134, 3) := by decide +kernel
theorem dC_fit_44 : decode prog_1_method_13_code 44 = .ok (.ifCond .eq (7), 3) := by decide +kernel
theorem dC_fit_47 : decode prog_1_method_13_code 47 = .ok (.iconst (1), 1) := by decide +kernel
theorem dC_fit_48 : decode prog_1_method_13_code 48 = .ok (.goto (4), 3) := by decide +kernel
theorem dC_fit_51 : decode prog_1_method_13_code 51 = .ok (.iconst (0), 1) := by decide +kernel
theorem dC_fit_52 : decode prog_1_method_13_code 52 = .ok (.ireturn, 1) := by decide +kernel
theorem dM_mayFit_0 : decode prog_14_method_45_code 0 = .ok (.aload_n 0, 1) := by decide +kernel
theorem dM_mayFit_1 : decode prog_14_method_45_code 1 = .ok (.getfield 20, 3) := by decide +kernel
theorem dM_mayFit_4 : decode prog_14_method_45_code 4 = .ok (.bipush (25), 2) := by decide +kernel
theorem dM_mayFit_6 : decode prog_14_method_45_code 6 = .ok (.iload_n 1, 1) := by decide +kernel
theorem dM_mayFit_7 : decode prog_14_method_45_code 7 = .ok (.imul, 1) := by decide +kernel
theorem dM_mayFit_8 : decode prog_14_method_45_code 8 = .ok (.iload_n 3, 1) := by decide +kernel
theorem dM_mayFit_9 : decode prog_14_method_45_code 9 = .ok (.iadd, 1) := by decide +kernel
theorem dM_mayFit_10 : decode prog_14_method_45_code 10 = .ok (.baload, 1) := by decide +kernel
theorem dM_mayFit_11 : decode prog_14_method_45_code 11 = .ok (.aload_n 0, 1) := by decide +kernel
theorem dM_mayFit_12 : decode prog_14_method_45_code 12 = .ok (.getfield 20, 3) := by decide +kernel
theorem dM_mayFit_15 : decode prog_14_method_45_code 15 = .ok (.bipush (25), 2) := by decide +kernel
theorem dM_mayFit_17 : decode prog_14_method_45_code 17 = .ok (.iload_n 2, 1) := by decide +kernel
theorem dM_mayFit_18 : decode prog_14_method_45_code 18 = .ok (.imul, 1) := by decide +kernel
theorem dM_mayFit_19 : decode prog_14_method_45_code 19 = .ok (.iload 4, 2) := by decide +kernel
theorem dM_mayFit_21 : decode prog_14_method_45_code 21 = .ok (.iadd, 1) := by decide +kernel
theorem dM_mayFit_22 : decode prog_14_method_45_code 22 = .ok (.baload, 1) := by decide +kernel
theorem dM_mayFit_23 : decode prog_14_method_45_code 23 = .ok (.if_icmp .ne (7), 3) := by decide +kernel
theorem dM_mayFit_26 : decode prog_14_method_45_code 26 = .ok (.iconst (1), 1) := by decide +kernel
theorem dM_mayFit_27 : decode prog_14_method_45_code 27 = .ok (.goto (4), 3) := by decide +kernel
theorem dM_mayFit_30 : decode prog_14_method_45_code 30 = .ok (.iconst (0), 1) := by decide +kernel
theorem dM_mayFit_31 : decode prog_14_method_45_code 31 = .ok (.istore 5, 2) := by decide +kernel
theorem dM_mayFit_33 : decode prog_14_method_45_code 33 = .ok (.aload_n 0, 1) := by decide +kernel
theorem dM_mayFit_34 : decode prog_14_method_45_code 34 = .ok (.iload_n 1, 1) := by decide +kernel
theorem dM_mayFit_35 : decode prog_14_method_45_code 35 = .ok (.iload_n 3, 1) := by decide +kernel
theorem dM_mayFit_36 : decode prog_14_method_45_code 36 = .ok (.iconst (1), 1) := by decide +kernel
theorem dM_mayFit_37 : decode prog_14_method_45_code 37 = .ok (.invokevirtual 188, 3) := by decide +kernel
theorem dM_mayFit_40 : decode prog_14_method_45_code 40 = .ok (.istore 6, 2) := by decide +kernel
theorem dM_mayFit_42 : decode prog_14_method_45_code 42 = .ok (.aload_n 0, 1) := by decide +kernel
theorem dM_mayFit_43 : decode prog_14_method_45_code 43 = .ok (.iload_n 2, 1) := by decide +kernel
theorem dM_mayFit_44 : decode prog_14_method_45_code 44 = .ok (.iload 4, 2) := by decide +kernel
theorem dM_mayFit_46 : decode prog_14_method_45_code 46 = .ok (.iconst (1), 1) := by decide +kernel
theorem dM_mayFit_47 : decode prog_14_method_45_code 47 = .ok (.invokevirtual 188, 3) := by decide +kernel
theorem dM_mayFit_50 : decode prog_14_method_45_code 50 = .ok (.istore 7, 2) := by decide +kernel
theorem dM_mayFit_52 : decode prog_14_method_45_code 52 = .ok (.aload_n 0, 1) := by decide +kernel
theorem dM_mayFit_53 : decode prog_14_method_45_code 53 = .ok (.iload_n 2, 1) := by decide +kernel
theorem dM_mayFit_54 : decode prog_14_method_45_code 54 = .ok (.iload 4, 2) := by decide +kernel
theorem dM_mayFit_56 : decode prog_14_method_45_code 56 = .ok (.iconst (0), 1) := by decide +kernel
theorem dM_mayFit_57 : decode prog_14_method_45_code 57 = .ok (.invokevirtual 188, 3) := by decide +kernel
theorem dM_mayFit_60 : decode prog_14_method_45_code 60 = .ok (.istore 8, 2) := by decide +kernel
theorem dM_mayFit_62 : decode prog_14_method_45_code 62 = .ok (.iload 5, 2) := by decide +kernel
theorem dM_mayFit_64 : decode prog_14_method_45_code 64 = .ok (.ifCond .eq (42), 3) := by decide +kernel
theorem dM_mayFit_67 : decode prog_14_method_45_code 67 = .ok (.iload 6, 2) := by decide +kernel
theorem dM_mayFit_69 : decode prog_14_method_45_code 69 = .ok (.iload 7, 2) := by decide +kernel
theorem dM_mayFit_71 : decode prog_14_method_45_code 71 = .ok (.iconst (-1), 1) := by decide +kernel
theorem dM_mayFit_72 : decode prog_14_method_45_code 72 = .ok (.ixor, 1) := by decide +kernel
theorem dM_mayFit_73 : decode prog_14_method_45_code 73 = .ok (.iand, 1) := by decide +kernel
theorem dM_mayFit_74 : decode prog_14_method_45_code 74 = .ok (.ifCond .ne (32), 3) := by decide +kernel
theorem dM_mayFit_77 : decode prog_14_method_45_code 77 = .ok (.iload 8, 2) := by decide +kernel
theorem dM_mayFit_79 : decode prog_14_method_45_code 79 = .ok (.aload_n 0, 1) := by decide +kernel
theorem dM_mayFit_80 : decode prog_14_method_45_code 80 = .ok (.iload_n 1, 1) := by decide +kernel
theorem dM_mayFit_81 : decode prog_14_method_45_code 81 = .ok (.iload_n 3, 1) := by decide +kernel
theorem dM_mayFit_82 : decode prog_14_method_45_code 82 = .ok (.iconst (0), 1) := by decide +kernel
theorem dM_mayFit_83 : decode prog_14_method_45_code 83 = .ok (.invokevirtual 188, 3) := by decide +kernel
theorem dM_mayFit_86 : decode prog_14_method_45_code 86 = .ok (.iconst (-1), 1) := by decide +kernel
theorem dM_mayFit_87 : decode prog_14_method_45_code 87 = .ok (.ixor, 1) := by decide +kernel
theorem dM_mayFit_88 : decode prog_14_method_45_code 88 = .ok (.iand, 1) := by decide +kernel
theorem dM_mayFit_89 : decode prog_14_method_45_code 89 = .ok (.ifCond .ne (17), 3) := by decide +kernel
theorem dM_mayFit_92 : decode prog_14_method_45_code 92 = .ok (.iload 6, 2) := by decide +kernel
theorem dM_mayFit_94 : decode prog_14_method_45_code 94 = .ok (.ifCond .ne (8), 3) := by decide +kernel
theorem dM_mayFit_97 : decode prog_14_method_45_code 97 = .ok (.iload 7, 2) := by decide +kernel
theorem dM_mayFit_99 : decode prog_14_method_45_code 99 = .ok (.ifCond .ne (7), 3) := by decide +kernel
theorem dM_mayFit_102 : decode prog_14_method_45_code 102 = .ok (.iconst (1), 1) := by decide +kernel
theorem dM_mayFit_103 : decode prog_14_method_45_code 103 = .ok (.goto (4), 3) := by decide +kernel
theorem dM_mayFit_106 : decode prog_14_method_45_code 106 = .ok (.iconst (0), 1) := by decide +kernel
theorem dM_mayFit_107 : decode prog_14_method_45_code 107 = .ok (.istore 5, 2) := by decide +kernel
theorem dM_mayFit_109 : decode prog_14_method_45_code 109 = .ok (.iconst (0), 1) := by decide +kernel
theorem dM_mayFit_110 : decode prog_14_method_45_code 110 = .ok (.istore 9, 2) := by decide +kernel
theorem dM_mayFit_112 : decode prog_14_method_45_code 112 = .ok (.iload 9, 2) := by decide +kernel
theorem dM_mayFit_114 : decode prog_14_method_45_code 114 = .ok (.bipush (8), 2) := by decide +kernel
theorem dM_mayFit_116 : decode prog_14_method_45_code 116 = .ok (.if_icmp .ge (117), 3) := by decide +kernel
theorem dM_mayFit_119 : decode prog_14_method_45_code 119 = .ok (.iload 5, 2) := by decide +kernel
theorem dM_mayFit_121 : decode prog_14_method_45_code 121 = .ok (.ifCond .eq (112), 3) := by decide +kernel
theorem dM_mayFit_124 : decode prog_14_method_45_code 124 = .ok (.iload 8, 2) := by decide +kernel
theorem dM_mayFit_126 : decode prog_14_method_45_code 126 = .ok (.iload 9, 2) := by decide +kernel
theorem dM_mayFit_128 : decode prog_14_method_45_code 128 = .ok (.ishr, 1) := by decide +kernel
theorem dM_mayFit_129 : decode prog_14_method_45_code 129 = .ok (.iconst (1), 1) := by decide +kernel
theorem dM_mayFit_130 : decode prog_14_method_45_code 130 = .ok (.iand, 1) := by decide +kernel
theorem dM_mayFit_131 : decode prog_14_method_45_code 131 = .ok (.iconst (1), 1) := by decide +kernel
theorem dM_mayFit_132 : decode prog_14_method_45_code 132 = .ok (.if_icmp .ne (41), 3) := by decide +kernel
theorem dM_mayFit_135 : decode prog_14_method_45_code 135 = .ok (.aload_n 0, 1) := by decide +kernel
theorem dM_mayFit_136 : decode prog_14_method_45_code 136 = .ok (.getfield 100, 3) := by decide +kernel
theorem dM_mayFit_139 : decode prog_14_method_45_code 139 = .ok (.bipush (25), 2) := by decide +kernel
theorem dM_mayFit_141 : decode prog_14_method_45_code 141 = .ok (.aload_n 0, 1) := by decide +kernel
theorem dM_mayFit_142 : decode prog_14_method_45_code 142 = .ok (.getfield 17, 3) := by decide +kernel
theorem dM_mayFit_145 : decode prog_14_method_45_code 145 = .ok (.iload_n 1, 1) := by decide +kernel
theorem dM_mayFit_146 : decode prog_14_method_45_code 146 = .ok (.iload_n 3, 1) := by decide +kernel
theorem dM_mayFit_147 : decode prog_14_method_45_code 147 = .ok (.iconst (0), 1) := by decide +kernel
theorem dM_mayFit_148 : decode prog_14_method_45_code 148 = .ok (.iload 9, 2) := by decide +kernel
theorem dM_mayFit_150 : decode prog_14_method_45_code 150 = .ok (.invokestatic 176, 3) := by decide +kernel
theorem dM_mayFit_153 : decode prog_14_method_45_code 153 = .ok (.iaload, 1) := by decide +kernel
theorem dM_mayFit_154 : decode prog_14_method_45_code 154 = .ok (.imul, 1) := by decide +kernel
theorem dM_mayFit_155 : decode prog_14_method_45_code 155 = .ok (.aload_n 0, 1) := by decide +kernel
theorem dM_mayFit_156 : decode prog_14_method_45_code 156 = .ok (.getfield 17, 3) := by decide +kernel
theorem dM_mayFit_159 : decode prog_14_method_45_code 159 = .ok (.iload_n 2, 1) := by decide +kernel
theorem dM_mayFit_160 : decode prog_14_method_45_code 160 = .ok (.iload 4, 2) := by decide +kernel
theorem dM_mayFit_162 : decode prog_14_method_45_code 162 = .ok (.iconst (0), 1) := by decide +kernel
theorem dM_mayFit_163 : decode prog_14_method_45_code 163 = .ok (.iload 9, 2) := by decide +kernel
theorem dM_mayFit_165 : decode prog_14_method_45_code 165 = .ok (.invokestatic 176, 3) := by decide +kernel
theorem dM_mayFit_168 : decode prog_14_method_45_code 168 = .ok (.iaload, 1) := by decide +kernel
theorem dM_mayFit_169 : decode prog_14_method_45_code 169 = .ok (.iadd, 1) := by decide +kernel
theorem dM_mayFit_170 : decode prog_14_method_45_code 170 = .ok (.baload, 1) := by decide +kernel
theorem dM_mayFit_171 : decode prog_14_method_45_code 171 = .ok (.istore 5, 2) := by decide +kernel
theorem dM_mayFit_173 : decode prog_14_method_45_code 173 = .ok (.iload 5, 2) := by decide +kernel
theorem dM_mayFit_175 : decode prog_14_method_45_code 175 = .ok (.ifCond .eq (52), 3) := by decide +kernel
theorem dM_mayFit_178 : decode prog_14_method_45_code 178 = .ok (.iload 6, 2) := by decide +kernel
theorem dM_mayFit_180 : decode prog_14_method_45_code 180 = .ok (.iload 9, 2) := by decide +kernel
theorem dM_mayFit_182 : decode prog_14_method_45_code 182 = .ok (.ishr, 1) := by decide +kernel
theorem dM_mayFit_183 : decode prog_14_method_45_code 183 = .ok (.iconst (1), 1) := by decide +kernel
theorem dM_mayFit_184 : decode prog_14_method_45_code 184 = .ok (.iand, 1) := by decide +kernel
theorem dM_mayFit_185 : decode prog_14_method_45_code 185 = .ok (.iconst (1), 1) := by decide +kernel
theorem dM_mayFit_186 : decode prog_14_method_45_code 186 = .ok (.if_icmp .ne (41), 3) := by decide +kernel
theorem dM_mayFit_189 : decode prog_14_method_45_code 189 = .ok (.aload_n 0, 1) := by decide +kernel
theorem dM_mayFit_190 : decode prog_14_method_45_code 190 = .ok (.getfield 100, 3) := by decide +kernel
theorem dM_mayFit_193 : decode prog_14_method_45_code 193 = .ok (.bipush (25), 2) := by decide +kernel
theorem dM_mayFit_195 : decode prog_14_method_45_code 195 = .ok (.aload_n 0, 1) := by decide +kernel
theorem dM_mayFit_196 : decode prog_14_method_45_code 196 = .ok (.getfield 17, 3) := by decide +kernel
theorem dM_mayFit_199 : decode prog_14_method_45_code 199 = .ok (.iload_n 1, 1) := by decide +kernel
theorem dM_mayFit_200 : decode prog_14_method_45_code 200 = .ok (.iload_n 3, 1) := by decide +kernel
theorem dM_mayFit_201 : decode prog_14_method_45_code 201 = .ok (.iconst (1), 1) := by decide +kernel
theorem dM_mayFit_202 : decode prog_14_method_45_code 202 = .ok (.iload 9, 2) := by decide +kernel
theorem dM_mayFit_204 : decode prog_14_method_45_code 204 = .ok (.invokestatic 176, 3) := by decide +kernel
theorem dM_mayFit_207 : decode prog_14_method_45_code 207 = .ok (.iaload, 1) := by decide +kernel
theorem dM_mayFit_208 : decode prog_14_method_45_code 208 = .ok (.imul, 1) := by decide +kernel
theorem dM_mayFit_209 : decode prog_14_method_45_code 209 = .ok (.aload_n 0, 1) := by decide +kernel
theorem dM_mayFit_210 : decode prog_14_method_45_code 210 = .ok (.getfield 17, 3) := by decide +kernel
theorem dM_mayFit_213 : decode prog_14_method_45_code 213 = .ok (.iload_n 2, 1) := by decide +kernel
theorem dM_mayFit_214 : decode prog_14_method_45_code 214 = .ok (.iload 4, 2) := by decide +kernel
theorem dM_mayFit_216 : decode prog_14_method_45_code 216 = .ok (.iconst (1), 1) := by decide +kernel
theorem dM_mayFit_217 : decode prog_14_method_45_code 217 = .ok (.iload 9, 2) := by decide +kernel
theorem dM_mayFit_219 : decode prog_14_method_45_code 219 = .ok (.invokestatic 176, 3) := by decide +kernel
theorem dM_mayFit_222 : decode prog_14_method_45_code 222 = .ok (.iaload, 1) := by decide +kernel
theorem dM_mayFit_223 : decode prog_14_method_45_code 223 = .ok (.iadd, 1) := by decide +kernel
theorem dM_mayFit_224 : decode prog_14_method_45_code 224 = .ok (.baload, 1) := by decide +kernel
theorem dM_mayFit_225 : decode prog_14_method_45_code 225 = .ok (.istore 5, 2) := by decide +kernel
theorem dM_mayFit_227 : decode prog_14_method_45_code 227 = .ok (.iinc 9 (1), 3) := by decide +kernel
theorem dM_mayFit_230 : decode prog_14_method_45_code 230 = .ok (.goto (-118), 3) := by decide +kernel
theorem dM_mayFit_233 : decode prog_14_method_45_code 233 = .ok (.iload 5, 2) := by decide +kernel
theorem dM_mayFit_235 : decode prog_14_method_45_code 235 = .ok (.ireturn, 1) := by decide +kernel
theorem dM_fitAll_0 : decode prog_14_method_46_code 0 = .ok (.iconst (0), 1) := by decide +kernel
theorem dM_fitAll_1 : decode prog_14_method_46_code 1 = .ok (.istore_n 3, 1) := by decide +kernel
theorem dM_fitAll_2 : decode prog_14_method_46_code 2 = .ok (.iload_n 3, 1) := by decide +kernel
theorem dM_fitAll_3 : decode prog_14_method_46_code 3 = .ok (.sipush (625), 3) := by decide +kernel
theorem dM_fitAll_6 : decode prog_14_method_46_code 6 = .ok (.if_icmp .ge (46), 3) := by decide +kernel
theorem dM_fitAll_9 : decode prog_14_method_46_code 9 = .ok (.aload_n 0, 1) := by decide +kernel
theorem dM_fitAll_10 : decode prog_14_method_46_code 10 = .ok (.getfield 100, 3) := by decide +kernel
theorem dM_fitAll_13 : decode prog_14_method_46_code 13 = .ok (.iload_n 3, 1) := by decide +kernel
theorem dM_fitAll_14 : decode prog_14_method_46_code 14 = .ok (.iload_n 3, 1) := by decide +kernel
theorem dM_fitAll_15 : decode prog_14_method_46_code 15 = .ok (.bipush (25), 2) := by decide +kernel
theorem dM_fitAll_17 : decode prog_14_method_46_code 17 = .ok (.idiv, 1) := by decide +kernel
theorem dM_fitAll_18 : decode prog_14_method_46_code 18 = .ok (.aload_n 0, 1) := by decide +kernel
theorem dM_fitAll_19 : decode prog_14_method_46_code 19 = .ok (.getfield 13, 3) := by decide +kernel
theorem dM_fitAll_22 : decode prog_14_method_46_code 22 = .ok (.iload_n 1, 1) := by decide +kernel
theorem dM_fitAll_23 : decode prog_14_method_46_code 23 = .ok (.iaload, 1) := by decide +kernel
theorem dM_fitAll_24 : decode prog_14_method_46_code 24 = .ok (.if_icmp .gt (20), 3) := by decide +kernel
theorem dM_fitAll_27 : decode prog_14_method_46_code 27 = .ok (.iload_n 3, 1) := by decide +kernel
theorem dM_fitAll_28 : decode prog_14_method_46_code 28 = .ok (.bipush (25), 2) := by decide +kernel
theorem dM_fitAll_30 : decode prog_14_method_46_code 30 = .ok (.irem, 1) := by decide +kernel
theorem dM_fitAll_31 : decode prog_14_method_46_code 31 = .ok (.aload_n 0, 1) := by decide +kernel
theorem dM_fitAll_32 : decode prog_14_method_46_code 32 = .ok (.getfield 13, 3) := by decide +kernel
theorem dM_fitAll_35 : decode prog_14_method_46_code 35 = .ok (.iload_n 2, 1) := by decide +kernel
theorem dM_fitAll_36 : decode prog_14_method_46_code 36 = .ok (.iaload, 1) := by decide +kernel
theorem dM_fitAll_37 : decode prog_14_method_46_code 37 = .ok (.if_icmp .gt (7), 3) := by decide +kernel
theorem dM_fitAll_40 : decode prog_14_method_46_code 40 = .ok (.iconst (1), 1) := by decide +kernel
theorem dM_fitAll_41 : decode prog_14_method_46_code 41 = .ok (.goto (4), 3) := by decide +kernel
theorem dM_fitAll_44 : decode prog_14_method_46_code 44 = .ok (.iconst (0), 1) := by decide +kernel
theorem dM_fitAll_45 : decode prog_14_method_46_code 45 = .ok (.bastore, 1) := by decide +kernel
theorem dM_fitAll_46 : decode prog_14_method_46_code 46 = .ok (.iinc 3 (1), 3) := by decide +kernel
theorem dM_fitAll_49 : decode prog_14_method_46_code 49 = .ok (.goto (-47), 3) := by decide +kernel
theorem dM_fitAll_52 : decode prog_14_method_46_code 52 = .ok (.iconst (1), 1) := by decide +kernel
theorem dM_fitAll_53 : decode prog_14_method_46_code 53 = .ok (.istore_n 3, 1) := by decide +kernel
theorem dM_fitAll_54 : decode prog_14_method_46_code 54 = .ok (.iload_n 3, 1) := by decide +kernel
theorem dM_fitAll_55 : decode prog_14_method_46_code 55 = .ok (.ifCond .eq (64), 3) := by decide +kernel
theorem dM_fitAll_58 : decode prog_14_method_46_code 58 = .ok (.iconst (0), 1) := by decide +kernel
theorem dM_fitAll_59 : decode prog_14_method_46_code 59 = .ok (.istore_n 3, 1) := by decide +kernel
theorem dM_fitAll_60 : decode prog_14_method_46_code 60 = .ok (.iconst (0), 1) := by decide +kernel
theorem dM_fitAll_61 : decode prog_14_method_46_code 61 = .ok (.istore 4, 2) := by decide +kernel
theorem dM_fitAll_63 : decode prog_14_method_46_code 63 = .ok (.iload 4, 2) := by decide +kernel
theorem dM_fitAll_65 : decode prog_14_method_46_code 65 = .ok (.sipush (625), 3) := by decide +kernel
theorem dM_fitAll_68 : decode prog_14_method_46_code 68 = .ok (.if_icmp .ge (48), 3) := by decide +kernel
theorem dM_fitAll_71 : decode prog_14_method_46_code 71 = .ok (.aload_n 0, 1) := by decide +kernel
theorem dM_fitAll_72 : decode prog_14_method_46_code 72 = .ok (.getfield 100, 3) := by decide +kernel
theorem dM_fitAll_75 : decode prog_14_method_46_code 75 = .ok (.iload 4, 2) := by decide +kernel
theorem dM_fitAll_77 : decode prog_14_method_46_code 77 = .ok (.baload, 1) := by decide +kernel
theorem dM_fitAll_78 : decode prog_14_method_46_code 78 = .ok (.ifCond .eq (32), 3) := by decide +kernel
theorem dM_fitAll_81 : decode prog_14_method_46_code 81 = .ok (.aload_n 0, 1) := by decide +kernel
theorem dM_fitAll_82 : decode prog_14_method_46_code 82 = .ok (.iload_n 1, 1) := by decide +kernel
theorem dM_fitAll_83 : decode prog_14_method_46_code 83 = .ok (.iload_n 2, 1) := by decide +kernel
theorem dM_fitAll_84 : decode prog_14_method_46_code 84 = .ok (.iload 4, 2) := by decide +kernel
theorem dM_fitAll_86 : decode prog_14_method_46_code 86 = .ok (.bipush (25), 2) := by decide +kernel
theorem dM_fitAll_88 : decode prog_14_method_46_code 88 = .ok (.idiv, 1) := by decide +kernel
theorem dM_fitAll_89 : decode prog_14_method_46_code 89 = .ok (.iload 4, 2) := by decide +kernel
theorem dM_fitAll_91 : decode prog_14_method_46_code 91 = .ok (.bipush (25), 2) := by decide +kernel
theorem dM_fitAll_93 : decode prog_14_method_46_code 93 = .ok (.irem, 1) := by decide +kernel
theorem dM_fitAll_94 : decode prog_14_method_46_code 94 = .ok (.invokevirtual 274, 3) := by decide +kernel
theorem dM_fitAll_97 : decode prog_14_method_46_code 97 = .ok (.ifCond .ne (13), 3) := by decide +kernel
theorem dM_fitAll_100 : decode prog_14_method_46_code 100 = .ok (.aload_n 0, 1) := by decide +kernel
theorem dM_fitAll_101 : decode prog_14_method_46_code 101 = .ok (.getfield 100, 3) := by decide +kernel
theorem dM_fitAll_104 : decode prog_14_method_46_code 104 = .ok (.iload 4, 2) := by decide +kernel
theorem dM_fitAll_106 : decode prog_14_method_46_code 106 = .ok (.iconst (0), 1) := by decide +kernel
theorem dM_fitAll_107 : decode prog_14_method_46_code 107 = .ok (.bastore, 1) := by decide +kernel
theorem dM_fitAll_108 : decode prog_14_method_46_code 108 = .ok (.iconst (1), 1) := by decide +kernel
theorem dM_fitAll_109 : decode prog_14_method_46_code 109 = .ok (.istore_n 3, 1) := by decide +kernel
theorem dM_fitAll_110 : decode prog_14_method_46_code 110 = .ok (.iinc 4 (1), 3) := by decide +kernel
theorem dM_fitAll_113 : decode prog_14_method_46_code 113 = .ok (.goto (-50), 3) := by decide +kernel
theorem dM_fitAll_116 : decode prog_14_method_46_code 116 = .ok (.goto (-62), 3) := by decide +kernel
theorem dM_fitAll_119 : decode prog_14_method_46_code 119 = .ok (.return_, 1) := by decide +kernel
theorem dM_fit_0 : decode prog_14_method_47_code 0 = .ok (.aload_n 0, 1) := by decide +kernel
theorem dM_fit_1 : decode prog_14_method_47_code 1 = .ok (.iload_n 1, 1) := by decide +kernel
theorem dM_fit_2 : decode prog_14_method_47_code 2 = .ok (.invokevirtual 180, 3) := by decide +kernel
theorem dM_fit_5 : decode prog_14_method_47_code 5 = .ok (.ifCond .eq (11), 3) := by decide +kernel
theorem dM_fit_8 : decode prog_14_method_47_code 8 = .ok (.aload_n 0, 1) := by decide +kernel
theorem dM_fit_9 : decode prog_14_method_47_code 9 = .ok (.iload_n 2, 1) := by decide +kernel
theorem dM_fit_10 : decode prog_14_method_47_code 10 = .ok (.invokevirtual 180, 3) := by decide +kernel
theorem dM_fit_13 : decode prog_14_method_47_code 13 = .ok (.ifCond .ne (6), 3) := by decide +kernel
theorem dM_fit_16 : decode prog_14_method_47_code 16 = .ok (.bipush (-101), 2) := by decide +kernel
theorem dM_fit_18 : decode prog_14_method_47_code 18 = .ok (.ireturn, 1) := by decide +kernel
theorem dM_fit_19 : decode prog_14_method_47_code 19 = .ok (.aload_n 0, 1) := by decide +kernel
theorem dM_fit_20 : decode prog_14_method_47_code 20 = .ok (.iload_n 1, 1) := by decide +kernel
theorem dM_fit_21 : decode prog_14_method_47_code 21 = .ok (.iload_n 2, 1) := by decide +kernel
theorem dM_fit_22 : decode prog_14_method_47_code 22 = .ok (.invokevirtual 278, 3) := by decide +kernel
theorem dM_fit_25 : decode prog_14_method_47_code 25 = .ok (.aload_n 0, 1) := by decide +kernel
theorem dM_fit_26 : decode prog_14_method_47_code 26 = .ok (.getfield 100, 3) := by decide +kernel
theorem dM_fit_29 : decode prog_14_method_47_code 29 = .ok (.iconst (0), 1) := by decide +kernel
theorem dM_fit_30 : decode prog_14_method_47_code 30 = .ok (.baload, 1) := by decide +kernel
theorem dM_fit_31 : decode prog_14_method_47_code 31 = .ok (.ifCond .eq (7), 3) := by decide +kernel
theorem dM_fit_34 : decode prog_14_method_47_code 34 = .ok (.iconst (1), 1) := by decide +kernel
theorem dM_fit_35 : decode prog_14_method_47_code 35 = .ok (.goto (4), 3) := by decide +kernel
theorem dM_fit_38 : decode prog_14_method_47_code 38 = .ok (.iconst (0), 1) := by decide +kernel
theorem dM_fit_39 : decode prog_14_method_47_code 39 = .ok (.ireturn, 1) := by decide +kernel
theorem dC_swap_0 : decode prog_1_method_14_code 0 = .ok (.aload_n 0, 1) := by decide +kernel
theorem dC_swap_1 : decode prog_1_method_14_code 1 = .ok (.iload_n 1, 1) := by decide +kernel
theorem dC_swap_2 : decode prog_1_method_14_code 2 = .ok (.invokevirtual 93, 3) := by decide +kernel
theorem dC_swap_5 : decode prog_1_method_14_code 5 = .ok (.astore 4, 2) := by decide +kernel
theorem dC_swap_7 : decode prog_1_method_14_code 7 = .ok (.aload_n 0, 1) := by decide +kernel
theorem dC_swap_8 : decode prog_1_method_14_code 8 = .ok (.iload_n 2, 1) := by decide +kernel
theorem dC_swap_9 : decode prog_1_method_14_code 9 = .ok (.invokevirtual 93, 3) := by decide +kernel
theorem dC_swap_12 : decode prog_1_method_14_code 12 = .ok (.astore 5, 2) := by decide +kernel
theorem dC_swap_14 : decode prog_1_method_14_code 14 = .ok (.aload 4, 2) := by decide +kernel
theorem dC_swap_16 : decode prog_1_method_14_code 16 = .ok (.ifnull (17), 3) := by decide +kernel
theorem dC_swap_19 : decode prog_1_method_14_code 19 = .ok (.aload 5, 2) := by decide +kernel
theorem dC_swap_21 : decode prog_1_method_14_code 21 = .ok (.ifnull (12), 3) := by decide +kernel
theorem dC_swap_24 : decode prog_1_method_14_code 24 = .ok (.aload 5, 2) := by decide +kernel
theorem dC_swap_26 : decode prog_1_method_14_code 26 = .ok (.iload_n 3, 1) := by decide +kernel
theorem dC_swap_27 : decode prog_1_method_14_code 27 = .ok (.invokevirtual 98, 3) := by decide +kernel
theorem dC_swap_30 : decode prog_1_method_14_code 30 = .ok (.ifCond .ne (6), 3) := by decide +kernel
theorem dC_swap_33 : decode prog_1_method_14_code 33 = .ok (.bipush (-101), 2) := by decide +kernel
theorem dC_swap_35 : decode prog_1_method_14_code 35 = .ok (.ireturn, 1) := by decide +kernel
theorem dC_swap_36 : decode prog_1_method_14_code 36 = .ok (.aload_n 0, 1) := by decide +kernel
theorem dC_swap_37 : decode prog_1_method_14_code 37 = .ok (.getfield 32, 3) := by decide +kernel
theorem dC_swap_40 : decode prog_1_method_14_code 40 = .ok (.aload 4, 2) := by decide +kernel
theorem dC_swap_42 : decode prog_1_method_14_code 42 = .ok (.aload 5, 2) := by decide +kernel
theorem dC_swap_44 : decode prog_1_method_14_code 44 = .ok (.invokevirtual 130, 3) := by decide +kernel
theorem dC_swap_47 : decode prog_1_method_14_code 47 = .ok (.iconst (0), 1) := by decide +kernel
theorem dC_swap_48 : decode prog_1_method_14_code 48 = .ok (.istore 6, 2) := by decide +kernel
theorem dC_swap_50 : decode prog_1_method_14_code 50 = .ok (.iload 6, 2) := by decide +kernel
theorem dC_swap_52 : decode prog_1_method_14_code 52 = .ok (.aload 4, 2) := by decide +kernel
theorem dC_swap_54 : decode prog_1_method_14_code 54 = .ok (.getfield 97, 3) := by decide +kernel
theorem dC_swap_57 : decode prog_1_method_14_code 57 = .ok (.if_icmp .gt (25), 3) := by decide +kernel
theorem dC_swap_60 : decode prog_1_method_14_code 60 = .ok (.aload_n 0, 1) := by decide +kernel
theorem dC_swap_61 : decode prog_1_method_14_code 61 = .ok (.getfield 32, 3) := by decide +kernel
theorem dC_swap_64 : decode prog_1_method_14_code 64 = .ok (.iload 6, 2) := by decide +kernel
theorem dC_swap_66 : decode prog_1_method_14_code 66 = .ok (.iload_n 3, 1) := by decide +kernel
theorem dC_swap_67 : decode prog_1_method_14_code 67 = .ok (.invokevirtual 134, 3) := by decide +kernel
theorem dC_swap_70 : decode prog_1_method_14_code 70 = .ok (.ifCond .eq (6), 3) := by decide +kernel
theorem dC_swap_73 : decode prog_1_method_14_code 73 = .ok (.iload 6, 2) := by decide +kernel
theorem dC_swap_75 : decode prog_1_method_14_code 75 = .ok (.ireturn, 1) := by decide +kernel
theorem dC_swap_76 : decode prog_1_method_14_code 76 = .ok (.iinc 6 (1), 3) := by decide +kernel
theorem dC_swap_79 : decode prog_1_method_14_code 79 = .ok (.goto (-29), 3) := by decide +kernel
theorem dC_swap_82 : decode prog_1_method_14_code 82 = .ok (.iconst (-1), 1) := by decide +kernel
theorem dC_swap_83 : decode prog_1_method_14_code 83 = .ok (.ireturn, 1) := by decide +kernel
theorem dM_swap_0 : decode prog_14_method_48_code 0 = .ok (.aload_n 0, 1) := by decide +kernel
theorem dM_swap_1 : decode prog_14_method_48_code 1 = .ok (.iload_n 1, 1) := by decide +kernel
theorem dM_swap_2 : decode prog_14_method_48_code 2 = .ok (.invokevirtual 180, 3) := by decide +kernel
theorem dM_swap_5 : decode prog_14_method_48_code 5 = .ok (.ifCond .eq (12), 3) := by decide +kernel
theorem dM_swap_8 : decode prog_14_method_48_code 8 = .ok (.aload_n 0, 1) := by decide +kernel
theorem dM_swap_9 : decode prog_14_method_48_code 9 = .ok (.iload_n 2, 1) := by decide +kernel
theorem dM_swap_10 : decode prog_14_method_48_code 10 = .ok (.iload_n 3, 1) := by decide +kernel
theorem dM_swap_11 : decode prog_14_method_48_code 11 = .ok (.invokevirtual 184, 3) := by decide +kernel
theorem dM_swap_14 : decode prog_14_method_48_code 14 = .ok (.ifCond .ne (6), 3) := by decide +kernel
theorem dM_swap_17 : decode prog_14_method_48_code 17 = .ok (.bipush (-101), 2) := by decide +kernel
theorem dM_swap_19 : decode prog_14_method_48_code 19 = .ok (.ireturn, 1) := by decide +kernel
theorem dM_swap_20 : decode prog_14_method_48_code 20 = .ok (.aload_n 0, 1) := by decide +kernel
theorem dM_swap_21 : decode prog_14_method_48_code 21 = .ok (.iload_n 1, 1) := by decide +kernel
theorem dM_swap_22 : decode prog_14_method_48_code 22 = .ok (.iload_n 2, 1) := by decide +kernel
theorem dM_swap_23 : decode prog_14_method_48_code 23 = .ok (.invokevirtual 278, 3) := by decide +kernel
theorem dM_swap_26 : decode prog_14_method_48_code 26 = .ok (.iconst (0), 1) := by decide +kernel
theorem dM_swap_27 : decode prog_14_method_48_code 27 = .ok (.istore 4, 2) := by decide +kernel
theorem dM_swap_29 : decode prog_14_method_48_code 29 = .ok (.iload 4, 2) := by decide +kernel
theorem dM_swap_31 : decode prog_14_method_48_code 31 = .ok (.aload_n 0, 1) := by decide +kernel
theorem dM_swap_32 : decode prog_14_method_48_code 32 = .ok (.getfield 13, 3) := by decide +kernel
theorem dM_swap_35 : decode prog_14_method_48_code 35 = .ok (.iload_n 1, 1) := by decide +kernel
theorem dM_swap_36 : decode prog_14_method_48_code 36 = .ok (.iaload, 1) := by decide +kernel
theorem dM_swap_37 : decode prog_14_method_48_code 37 = .ok (.if_icmp .gt (27), 3) := by decide +kernel
theorem dM_swap_40 : decode prog_14_method_48_code 40 = .ok (.aload_n 0, 1) := by decide +kernel
theorem dM_swap_41 : decode prog_14_method_48_code 41 = .ok (.getfield 100, 3) := by decide +kernel
theorem dM_swap_44 : decode prog_14_method_48_code 44 = .ok (.bipush (25), 2) := by decide +kernel
theorem dM_swap_46 : decode prog_14_method_48_code 46 = .ok (.iload 4, 2) := by decide +kernel
theorem dM_swap_48 : decode prog_14_method_48_code 48 = .ok (.imul, 1) := by decide +kernel
theorem dM_swap_49 : decode prog_14_method_48_code 49 = .ok (.iload_n 3, 1) := by decide +kernel
theorem dM_swap_50 : decode prog_14_method_48_code 50 = .ok (.iadd, 1) := by decide +kernel
theorem dM_swap_51 : decode prog_14_method_48_code 51 = .ok (.baload, 1) := by decide +kernel
theorem dM_swap_52 : decode prog_14_method_48_code 52 = .ok (.ifCond .eq (6), 3) := by decide +kernel
theorem dM_swap_55 : decode prog_14_method_48_code 55 = .ok (.iload 4, 2) := by decide +kernel
theorem dM_swap_57 : decode prog_14_method_48_code 57 = .ok (.ireturn, 1) := by decide +kernel
theorem dM_swap_58 : decode prog_14_method_48_code 58 = .ok (.iinc 4 (1), 3) := by decide +kernel
theorem dM_swap_61 : decode prog_14_method_48_code 61 = .ok (.goto (-32), 3) := by decide +kernel
theorem dM_swap_64 : decode prog_14_method_48_code 64 = .ok (.iconst (-1), 1) := by decide +kernel
theorem dM_swap_65 : decode prog_14_method_48_code 65 = .ok (.ireturn, 1) := by decide +kernel
theorem dTa_messages_0 : decode prog_10_method_7_code 0 = .ok (.aload_n 0, 1) := by decide +kernel
theorem dTa_messages_1 : decode prog_10_method_7_code 1 = .ok (.iconst (0), 1) := by decide +kernel
theorem dTa_messages_2 : decode prog_10_method_7_code 2 = .ok (.invokevirtual 61, 3) := by decide +kernel
theorem dTa_messages_5 : decode prog_10_method_7_code 5 = .ok (.aload_n 0, 1) := by decide +kernel
theorem dTa_messages_6 : decode prog_10_method_7_code 6 = .ok (.iconst (1), 1) := by decide +kernel
theorem dTa_messages_7 : decode prog_10_method_7_code 7 = .ok (.invokevirtual 61, 3) := by decide +kernel
theorem dTa_messages_10 : decode prog_10_method_7_code 10 = .ok (.ior, 1) := by decide +kernel
theorem dTa_messages_11 : decode prog_10_method_7_code 11 = .ok (.ireturn, 1) := by decide +kernel
theorem djI_bitCount_0 : decode prog_15_method_49_code 0 = .ok (.iload_n 0, 1) := by decide +kernel
theorem djI_bitCount_1 : decode prog_15_method_49_code 1 = .ok (.iload_n 0, 1) := by decide +kernel
theorem djI_bitCount_2 : decode prog_15_method_49_code 2 = .ok (.iconst (1), 1) := by decide +kernel
theorem djI_bitCount_3 : decode prog_15_method_49_code 3 = .ok (.iushr, 1) := by decide +kernel
theorem djI_bitCount_4 : decode prog_15_method_49_code 4 = .ok (.ldc_w 265, 3) := by decide +kernel
theorem djI_bitCount_7 : decode prog_15_method_49_code 7 = .ok (.iand, 1) := by decide +kernel
theorem djI_bitCount_8 : decode prog_15_method_49_code 8 = .ok (.isub, 1) := by decide +kernel
theorem djI_bitCount_9 : decode prog_15_method_49_code 9 = .ok (.istore_n 0, 1) := by decide +kernel
theorem djI_bitCount_10 : decode prog_15_method_49_code 10 = .ok (.iload_n 0, 1) := by decide +kernel
theorem djI_bitCount_11 : decode prog_15_method_49_code 11 = .ok (.ldc_w 266, 3) := by decide +kernel
theorem djI_bitCount_14 : decode prog_15_method_49_code 14 = .ok (.iand, 1) := by decide +kernel
theorem djI_bitCount_15 : decode prog_15_method_49_code 15 = .ok (.iload_n 0, 1) := by decide +kernel
theorem djI_bitCount_16 : decode prog_15_method_49_code 16 = .ok (.iconst (2), 1) := by decide +kernel
theorem djI_bitCount_17 : decode prog_15_method_49_code 17 = .ok (.iushr, 1) := by decide +kernel
theorem djI_bitCount_18 : decode prog_15_method_49_code 18 = .ok (.ldc_w 266, 3) := by decide +kernel
theorem djI_bitCount_21 : decode prog_15_method_49_code 21 = .ok (.iand, 1) := by decide +kernel
theorem djI_bitCount_22 : decode prog_15_method_49_code 22 = .ok (.iadd, 1) := by decide +kernel
theorem djI_bitCount_23 : decode prog_15_method_49_code 23 = .ok (.istore_n 0, 1) := by decide +kernel
theorem djI_bitCount_24 : decode prog_15_method_49_code 24 = .ok (.iload_n 0, 1) := by decide +kernel
theorem djI_bitCount_25 : decode prog_15_method_49_code 25 = .ok (.iload_n 0, 1) := by decide +kernel
theorem djI_bitCount_26 : decode prog_15_method_49_code 26 = .ok (.iconst (4), 1) := by decide +kernel
theorem djI_bitCount_27 : decode prog_15_method_49_code 27 = .ok (.iushr, 1) := by decide +kernel
theorem djI_bitCount_28 : decode prog_15_method_49_code 28 = .ok (.iadd, 1) := by decide +kernel
theorem djI_bitCount_29 : decode prog_15_method_49_code 29 = .ok (.ldc_w 267, 3) := by decide +kernel
theorem djI_bitCount_32 : decode prog_15_method_49_code 32 = .ok (.iand, 1) := by decide +kernel
theorem djI_bitCount_33 : decode prog_15_method_49_code 33 = .ok (.istore_n 0, 1) := by decide +kernel
theorem djI_bitCount_34 : decode prog_15_method_49_code 34 = .ok (.iload_n 0, 1) := by decide +kernel
theorem djI_bitCount_35 : decode prog_15_method_49_code 35 = .ok (.iload_n 0, 1) := by decide +kernel
theorem djI_bitCount_36 : decode prog_15_method_49_code 36 = .ok (.bipush (8), 2) := by decide +kernel
theorem djI_bitCount_38 : decode prog_15_method_49_code 38 = .ok (.iushr, 1) := by decide +kernel
theorem djI_bitCount_39 : decode prog_15_method_49_code 39 = .ok (.iadd, 1) := by decide +kernel
theorem djI_bitCount_40 : decode prog_15_method_49_code 40 = .ok (.istore_n 0, 1) := by decide +kernel
theorem djI_bitCount_41 : decode prog_15_method_49_code 41 = .ok (.iload_n 0, 1) := by decide +kernel
theorem djI_bitCount_42 : decode prog_15_method_49_code 42 = .ok (.iload_n 0, 1) := by decide +kernel
theorem djI_bitCount_43 : decode prog_15_method_49_code 43 = .ok (.bipush (16), 2) := by decide +kernel
theorem djI_bitCount_45 : decode prog_15_method_49_code 45 = .ok (.iushr, 1) := by decide +kernel
theorem djI_bitCount_46 : decode prog_15_method_49_code 46 = .ok (.iadd, 1) := by decide +kernel
theorem djI_bitCount_47 : decode prog_15_method_49_code 47 = .ok (.istore_n 0, 1) := by decide +kernel
theorem djI_bitCount_48 : decode prog_15_method_49_code 48 = .ok (.iload_n 0, 1) := by decide +kernel
theorem djI_bitCount_49 : decode prog_15_method_49_code 49 = .ok (.bipush (63), 2) := by decide +kernel
theorem djI_bitCount_51 : decode prog_15_method_49_code 51 = .ok (.iand, 1) := by decide +kernel
theorem djI_bitCount_52 : decode prog_15_method_49_code 52 = .ok (.ireturn, 1) := by decide +kernel
theorem dC_adaptingRefusal_0 : decode prog_1_method_44_code 0 = .ok (.aload_n 0, 1) := by decide +kernel
theorem dC_adaptingRefusal_1 : decode prog_1_method_44_code 1 = .ok (.iload_n 1, 1) := by decide +kernel
theorem dC_adaptingRefusal_2 : decode prog_1_method_44_code 2 = .ok (.invokevirtual 93, 3) := by decide +kernel
theorem dC_adaptingRefusal_5 : decode prog_1_method_44_code 5 = .ok (.astore 4, 2) := by decide +kernel
theorem dC_adaptingRefusal_7 : decode prog_1_method_44_code 7 = .ok (.aload 4, 2) := by decide +kernel
theorem dC_adaptingRefusal_9 : decode prog_1_method_44_code 9 = .ok (.ifnull (11), 3) := by decide +kernel
theorem dC_adaptingRefusal_12 : decode prog_1_method_44_code 12 = .ok (.aload_n 0, 1) := by decide +kernel
theorem dC_adaptingRefusal_13 : decode prog_1_method_44_code 13 = .ok (.iload_n 2, 1) := by decide +kernel
theorem dC_adaptingRefusal_14 : decode prog_1_method_44_code 14 = .ok (.invokevirtual 93, 3) := by decide +kernel
theorem dC_adaptingRefusal_17 : decode prog_1_method_44_code 17 = .ok (.ifnonnull (6), 3) := by decide +kernel
theorem dC_adaptingRefusal_20 : decode prog_1_method_44_code 20 = .ok (.bipush (-101), 2) := by decide +kernel
theorem dC_adaptingRefusal_22 : decode prog_1_method_44_code 22 = .ok (.ireturn, 1) := by decide +kernel
theorem dC_adaptingRefusal_23 : decode prog_1_method_44_code 23 = .ok (.aload 4, 2) := by decide +kernel
theorem dC_adaptingRefusal_25 : decode prog_1_method_44_code 25 = .ok (.invokevirtual 305, 3) := by decide +kernel
theorem dC_adaptingRefusal_28 : decode prog_1_method_44_code 28 = .ok (.invokestatic 308, 3) := by decide +kernel
theorem dC_adaptingRefusal_31 : decode prog_1_method_44_code 31 = .ok (.iconst (5), 1) := by decide +kernel
theorem dC_adaptingRefusal_32 : decode prog_1_method_44_code 32 = .ok (.if_icmp .gt (10), 3) := by decide +kernel
theorem dC_adaptingRefusal_35 : decode prog_1_method_44_code 35 = .ok (.iload_n 3, 1) := by decide +kernel
theorem dC_adaptingRefusal_36 : decode prog_1_method_44_code 36 = .ok (.invokestatic 105, 3) := by decide +kernel
theorem dC_adaptingRefusal_39 : decode prog_1_method_44_code 39 = .ok (.ifCond .ne (6), 3) := by decide +kernel
theorem dC_adaptingRefusal_42 : decode prog_1_method_44_code 42 = .ok (.bipush (-102), 2) := by decide +kernel
theorem dC_adaptingRefusal_44 : decode prog_1_method_44_code 44 = .ok (.ireturn, 1) := by decide +kernel
theorem dC_adaptingRefusal_45 : decode prog_1_method_44_code 45 = .ok (.aload_n 0, 1) := by decide +kernel
theorem dC_adaptingRefusal_46 : decode prog_1_method_44_code 46 = .ok (.getfield 283, 3) := by decide +kernel
theorem dC_adaptingRefusal_49 : decode prog_1_method_44_code 49 = .ok (.bipush (20), 2) := by decide +kernel
theorem dC_adaptingRefusal_51 : decode prog_1_method_44_code 51 = .ok (.if_icmp .lt (8), 3) := by decide +kernel
theorem dC_adaptingRefusal_54 : decode prog_1_method_44_code 54 = .ok (.bipush (-103), 2) := by decide +kernel
theorem dC_adaptingRefusal_56 : decode prog_1_method_44_code 56 = .ok (.goto (4), 3) := by decide +kernel
theorem dC_adaptingRefusal_59 : decode prog_1_method_44_code 59 = .ok (.iconst (0), 1) := by decide +kernel
theorem dC_adaptingRefusal_60 : decode prog_1_method_44_code 60 = .ok (.ireturn, 1) := by decide +kernel
theorem dAd_reach_0 : decode prog_2_method_9_code 0 = .ok (.aload_n 0, 1) := by decide +kernel
theorem dAd_reach_1 : decode prog_2_method_9_code 1 = .ok (.getfield 24, 3) := by decide +kernel
theorem dAd_reach_4 : decode prog_2_method_9_code 4 = .ok (.iload_n 1, 1) := by decide +kernel
theorem dAd_reach_5 : decode prog_2_method_9_code 5 = .ok (.iaload, 1) := by decide +kernel
theorem dAd_reach_6 : decode prog_2_method_9_code 6 = .ok (.iload_n 2, 1) := by decide +kernel
theorem dAd_reach_7 : decode prog_2_method_9_code 7 = .ok (.invokestatic 55, 3) := by decide +kernel
theorem dAd_reach_10 : decode prog_2_method_9_code 10 = .ok (.ifCond .ne (49), 3) := by decide +kernel
theorem dAd_reach_13 : decode prog_2_method_9_code 13 = .ok (.aload_n 0, 1) := by decide +kernel
theorem dAd_reach_14 : decode prog_2_method_9_code 14 = .ok (.getfield 70, 3) := by decide +kernel
theorem dAd_reach_17 : decode prog_2_method_9_code 17 = .ok (.sipush (625), 3) := by decide +kernel
theorem dAd_reach_20 : decode prog_2_method_9_code 20 = .ok (.if_icmp .ge (39), 3) := by decide +kernel
theorem dAd_reach_23 : decode prog_2_method_9_code 23 = .ok (.aload_n 0, 1) := by decide +kernel
theorem dAd_reach_24 : decode prog_2_method_9_code 24 = .ok (.getfield 24, 3) := by decide +kernel
theorem dAd_reach_27 : decode prog_2_method_9_code 27 = .ok (.iload_n 1, 1) := by decide +kernel
theorem dAd_reach_28 : decode prog_2_method_9_code 28 = .ok (.dup2, 1) := by decide +kernel
theorem dAd_reach_29 : decode prog_2_method_9_code 29 = .ok (.iaload, 1) := by decide +kernel
theorem dAd_reach_30 : decode prog_2_method_9_code 30 = .ok (.iconst (1), 1) := by decide +kernel
theorem dAd_reach_31 : decode prog_2_method_9_code 31 = .ok (.iload_n 2, 1) := by decide +kernel
theorem dAd_reach_32 : decode prog_2_method_9_code 32 = .ok (.ishl, 1) := by decide +kernel
theorem dAd_reach_33 : decode prog_2_method_9_code 33 = .ok (.ior, 1) := by decide +kernel
theorem dAd_reach_34 : decode prog_2_method_9_code 34 = .ok (.iastore, 1) := by decide +kernel
theorem dAd_reach_35 : decode prog_2_method_9_code 35 = .ok (.aload_n 0, 1) := by decide +kernel
theorem dAd_reach_36 : decode prog_2_method_9_code 36 = .ok (.getfield 27, 3) := by decide +kernel
theorem dAd_reach_39 : decode prog_2_method_9_code 39 = .ok (.aload_n 0, 1) := by decide +kernel
theorem dAd_reach_40 : decode prog_2_method_9_code 40 = .ok (.getfield 70, 3) := by decide +kernel
theorem dAd_reach_43 : decode prog_2_method_9_code 43 = .ok (.iload_n 1, 1) := by decide +kernel
theorem dAd_reach_44 : decode prog_2_method_9_code 44 = .ok (.iload_n 2, 1) := by decide +kernel
theorem dAd_reach_45 : decode prog_2_method_9_code 45 = .ok (.iconst (5), 1) := by decide +kernel
theorem dAd_reach_46 : decode prog_2_method_9_code 46 = .ok (.ishl, 1) := by decide +kernel
theorem dAd_reach_47 : decode prog_2_method_9_code 47 = .ok (.ior, 1) := by decide +kernel
theorem dAd_reach_48 : decode prog_2_method_9_code 48 = .ok (.iastore, 1) := by decide +kernel
theorem dAd_reach_49 : decode prog_2_method_9_code 49 = .ok (.aload_n 0, 1) := by decide +kernel
theorem dAd_reach_50 : decode prog_2_method_9_code 50 = .ok (.dup, 1) := by decide +kernel
theorem dAd_reach_51 : decode prog_2_method_9_code 51 = .ok (.getfield 70, 3) := by decide +kernel
theorem dAd_reach_54 : decode prog_2_method_9_code 54 = .ok (.iconst (1), 1) := by decide +kernel
theorem dAd_reach_55 : decode prog_2_method_9_code 55 = .ok (.iadd, 1) := by decide +kernel
theorem dAd_reach_56 : decode prog_2_method_9_code 56 = .ok (.putfield 70, 3) := by decide +kernel
theorem dAd_reach_59 : decode prog_2_method_9_code 59 = .ok (.return_, 1) := by decide +kernel
theorem dAd_agreeAt_0 : decode prog_2_method_7_code 0 = .ok (.iconst (0), 1) := by decide +kernel
theorem dAd_agreeAt_1 : decode prog_2_method_7_code 1 = .ok (.istore_n 3, 1) := by decide +kernel
theorem dAd_agreeAt_2 : decode prog_2_method_7_code 2 = .ok (.iconst (0), 1) := by decide +kernel
theorem dAd_agreeAt_3 : decode prog_2_method_7_code 3 = .ok (.istore 4, 2) := by decide +kernel
theorem dAd_agreeAt_5 : decode prog_2_method_7_code 5 = .ok (.iconst (0), 1) := by decide +kernel
theorem dAd_agreeAt_6 : decode prog_2_method_7_code 6 = .ok (.istore 5, 2) := by decide +kernel
theorem dAd_agreeAt_8 : decode prog_2_method_7_code 8 = .ok (.iconst (0), 1) := by decide +kernel
theorem dAd_agreeAt_9 : decode prog_2_method_7_code 9 = .ok (.istore 6, 2) := by decide +kernel
theorem dAd_agreeAt_11 : decode prog_2_method_7_code 11 = .ok (.iconst (0), 1) := by decide +kernel
theorem dAd_agreeAt_12 : decode prog_2_method_7_code 12 = .ok (.istore 7, 2) := by decide +kernel
theorem dAd_agreeAt_14 : decode prog_2_method_7_code 14 = .ok (.iconst (0), 1) := by decide +kernel
theorem dAd_agreeAt_15 : decode prog_2_method_7_code 15 = .ok (.istore 8, 2) := by decide +kernel
theorem dAd_agreeAt_17 : decode prog_2_method_7_code 17 = .ok (.iload 8, 2) := by decide +kernel
theorem dAd_agreeAt_19 : decode prog_2_method_7_code 19 = .ok (.aload_n 0, 1) := by decide +kernel
theorem dAd_agreeAt_20 : decode prog_2_method_7_code 20 = .ok (.getfield 41, 3) := by decide +kernel
theorem dAd_agreeAt_23 : decode prog_2_method_7_code 23 = .ok (.if_icmp .ge (120), 3) := by decide +kernel
theorem dAd_agreeAt_26 : decode prog_2_method_7_code 26 = .ok (.aload_n 0, 1) := by decide +kernel
theorem dAd_agreeAt_27 : decode prog_2_method_7_code 27 = .ok (.getfield 15, 3) := by decide +kernel
theorem dAd_agreeAt_30 : decode prog_2_method_7_code 30 = .ok (.iload 8, 2) := by decide +kernel
theorem dAd_agreeAt_32 : decode prog_2_method_7_code 32 = .ok (.iaload, 1) := by decide +kernel
theorem dAd_agreeAt_33 : decode prog_2_method_7_code 33 = .ok (.istore 9, 2) := by decide +kernel
theorem dAd_agreeAt_35 : decode prog_2_method_7_code 35 = .ok (.aload_n 0, 1) := by decide +kernel
theorem dAd_agreeAt_36 : decode prog_2_method_7_code 36 = .ok (.getfield 30, 3) := by decide +kernel
theorem dAd_agreeAt_39 : decode prog_2_method_7_code 39 = .ok (.getfield 83, 3) := by decide +kernel
theorem dAd_agreeAt_42 : decode prog_2_method_7_code 42 = .ok (.iload_n 1, 1) := by decide +kernel
theorem dAd_agreeAt_43 : decode prog_2_method_7_code 43 = .ok (.iaload, 1) := by decide +kernel
theorem dAd_agreeAt_44 : decode prog_2_method_7_code 44 = .ok (.iload 9, 2) := by decide +kernel
theorem dAd_agreeAt_46 : decode prog_2_method_7_code 46 = .ok (.ishr, 1) := by decide +kernel
theorem dAd_agreeAt_47 : decode prog_2_method_7_code 47 = .ok (.iconst (1), 1) := by decide +kernel
theorem dAd_agreeAt_48 : decode prog_2_method_7_code 48 = .ok (.iand, 1) := by decide +kernel
theorem dAd_agreeAt_49 : decode prog_2_method_7_code 49 = .ok (.istore 10, 2) := by decide +kernel
theorem dAd_agreeAt_51 : decode prog_2_method_7_code 51 = .ok (.aload_n 0, 1) := by decide +kernel
theorem dAd_agreeAt_52 : decode prog_2_method_7_code 52 = .ok (.getfield 30, 3) := by decide +kernel
theorem dAd_agreeAt_55 : decode prog_2_method_7_code 55 = .ok (.getfield 86, 3) := by decide +kernel
theorem dAd_agreeAt_58 : decode prog_2_method_7_code 58 = .ok (.iload_n 1, 1) := by decide +kernel
theorem dAd_agreeAt_59 : decode prog_2_method_7_code 59 = .ok (.iaload, 1) := by decide +kernel
theorem dAd_agreeAt_60 : decode prog_2_method_7_code 60 = .ok (.iload 9, 2) := by decide +kernel
theorem dAd_agreeAt_62 : decode prog_2_method_7_code 62 = .ok (.ishr, 1) := by decide +kernel
theorem dAd_agreeAt_63 : decode prog_2_method_7_code 63 = .ok (.iconst (1), 1) := by decide +kernel
theorem dAd_agreeAt_64 : decode prog_2_method_7_code 64 = .ok (.iand, 1) := by decide +kernel
theorem dAd_agreeAt_65 : decode prog_2_method_7_code 65 = .ok (.istore 11, 2) := by decide +kernel
theorem dAd_agreeAt_67 : decode prog_2_method_7_code 67 = .ok (.aload_n 0, 1) := by decide +kernel
theorem dAd_agreeAt_68 : decode prog_2_method_7_code 68 = .ok (.getfield 18, 3) := by decide +kernel
theorem dAd_agreeAt_71 : decode prog_2_method_7_code 71 = .ok (.iload 9, 2) := by decide +kernel
theorem dAd_agreeAt_73 : decode prog_2_method_7_code 73 = .ok (.iaload, 1) := by decide +kernel
theorem dAd_agreeAt_74 : decode prog_2_method_7_code 74 = .ok (.iconst (-1), 1) := by decide +kernel
theorem dAd_agreeAt_75 : decode prog_2_method_7_code 75 = .ok (.if_icmp .ne (20), 3) := by decide +kernel
theorem dAd_agreeAt_78 : decode prog_2_method_7_code 78 = .ok (.iload 5, 2) := by decide +kernel
theorem dAd_agreeAt_80 : decode prog_2_method_7_code 80 = .ok (.iload 10, 2) := by decide +kernel
theorem dAd_agreeAt_82 : decode prog_2_method_7_code 82 = .ok (.iadd, 1) := by decide +kernel
theorem dAd_agreeAt_83 : decode prog_2_method_7_code 83 = .ok (.istore 5, 2) := by decide +kernel
theorem dAd_agreeAt_85 : decode prog_2_method_7_code 85 = .ok (.iload 6, 2) := by decide +kernel
theorem dAd_agreeAt_87 : decode prog_2_method_7_code 87 = .ok (.iload 11, 2) := by decide +kernel
theorem dAd_agreeAt_89 : decode prog_2_method_7_code 89 = .ok (.iadd, 1) := by decide +kernel
theorem dAd_agreeAt_90 : decode prog_2_method_7_code 90 = .ok (.istore 6, 2) := by decide +kernel
theorem dAd_agreeAt_92 : decode prog_2_method_7_code 92 = .ok (.goto (45), 3) := by decide +kernel
theorem dAd_agreeAt_95 : decode prog_2_method_7_code 95 = .ok (.iload_n 3, 1) := by decide +kernel
theorem dAd_agreeAt_96 : decode prog_2_method_7_code 96 = .ok (.iload 10, 2) := by decide +kernel
theorem dAd_agreeAt_98 : decode prog_2_method_7_code 98 = .ok (.aload_n 0, 1) := by decide +kernel
theorem dAd_agreeAt_99 : decode prog_2_method_7_code 99 = .ok (.getfield 18, 3) := by decide +kernel
theorem dAd_agreeAt_102 : decode prog_2_method_7_code 102 = .ok (.iload 9, 2) := by decide +kernel
theorem dAd_agreeAt_104 : decode prog_2_method_7_code 104 = .ok (.iaload, 1) := by decide +kernel
theorem dAd_agreeAt_105 : decode prog_2_method_7_code 105 = .ok (.ishl, 1) := by decide +kernel
theorem dAd_agreeAt_106 : decode prog_2_method_7_code 106 = .ok (.ior, 1) := by decide +kernel
theorem dAd_agreeAt_107 : decode prog_2_method_7_code 107 = .ok (.istore_n 3, 1) := by decide +kernel
theorem dAd_agreeAt_108 : decode prog_2_method_7_code 108 = .ok (.iload 4, 2) := by decide +kernel
theorem dAd_agreeAt_110 : decode prog_2_method_7_code 110 = .ok (.iload 11, 2) := by decide +kernel
theorem dAd_agreeAt_112 : decode prog_2_method_7_code 112 = .ok (.aload_n 0, 1) := by decide +kernel
theorem dAd_agreeAt_113 : decode prog_2_method_7_code 113 = .ok (.getfield 18, 3) := by decide +kernel
theorem dAd_agreeAt_116 : decode prog_2_method_7_code 116 = .ok (.iload 9, 2) := by decide +kernel
theorem dAd_agreeAt_118 : decode prog_2_method_7_code 118 = .ok (.iaload, 1) := by decide +kernel
theorem dAd_agreeAt_119 : decode prog_2_method_7_code 119 = .ok (.ishl, 1) := by decide +kernel
theorem dAd_agreeAt_120 : decode prog_2_method_7_code 120 = .ok (.ior, 1) := by decide +kernel
theorem dAd_agreeAt_121 : decode prog_2_method_7_code 121 = .ok (.istore 4, 2) := by decide +kernel
theorem dAd_agreeAt_123 : decode prog_2_method_7_code 123 = .ok (.iload 7, 2) := by decide +kernel
theorem dAd_agreeAt_125 : decode prog_2_method_7_code 125 = .ok (.iconst (1), 1) := by decide +kernel
theorem dAd_agreeAt_126 : decode prog_2_method_7_code 126 = .ok (.aload_n 0, 1) := by decide +kernel
theorem dAd_agreeAt_127 : decode prog_2_method_7_code 127 = .ok (.getfield 18, 3) := by decide +kernel
theorem dAd_agreeAt_130 : decode prog_2_method_7_code 130 = .ok (.iload 9, 2) := by decide +kernel
theorem dAd_agreeAt_132 : decode prog_2_method_7_code 132 = .ok (.iaload, 1) := by decide +kernel
theorem dAd_agreeAt_133 : decode prog_2_method_7_code 133 = .ok (.ishl, 1) := by decide +kernel
theorem dAd_agreeAt_134 : decode prog_2_method_7_code 134 = .ok (.ior, 1) := by decide +kernel
theorem dAd_agreeAt_135 : decode prog_2_method_7_code 135 = .ok (.istore 7, 2) := by decide +kernel
theorem dAd_agreeAt_137 : decode prog_2_method_7_code 137 = .ok (.iinc 8 (1), 3) := by decide +kernel
theorem dAd_agreeAt_140 : decode prog_2_method_7_code 140 = .ok (.goto (-123), 3) := by decide +kernel
theorem dAd_agreeAt_143 : decode prog_2_method_7_code 143 = .ok (.iload_n 3, 1) := by decide +kernel
theorem dAd_agreeAt_144 : decode prog_2_method_7_code 144 = .ok (.aload_n 0, 1) := by decide +kernel
theorem dAd_agreeAt_145 : decode prog_2_method_7_code 145 = .ok (.getfield 34, 3) := by decide +kernel
theorem dAd_agreeAt_148 : decode prog_2_method_7_code 148 = .ok (.getfield 86, 3) := by decide +kernel
theorem dAd_agreeAt_151 : decode prog_2_method_7_code 151 = .ok (.iload_n 2, 1) := by decide +kernel
theorem dAd_agreeAt_152 : decode prog_2_method_7_code 152 = .ok (.iaload, 1) := by decide +kernel
theorem dAd_agreeAt_153 : decode prog_2_method_7_code 153 = .ok (.iconst (-1), 1) := by decide +kernel
theorem dAd_agreeAt_154 : decode prog_2_method_7_code 154 = .ok (.ixor, 1) := by decide +kernel
theorem dAd_agreeAt_155 : decode prog_2_method_7_code 155 = .ok (.iand, 1) := by decide +kernel
theorem dAd_agreeAt_156 : decode prog_2_method_7_code 156 = .ok (.ifCond .ne (23), 3) := by decide +kernel
theorem dAd_agreeAt_159 : decode prog_2_method_7_code 159 = .ok (.aload_n 0, 1) := by decide +kernel
theorem dAd_agreeAt_160 : decode prog_2_method_7_code 160 = .ok (.getfield 34, 3) := by decide +kernel
theorem dAd_agreeAt_163 : decode prog_2_method_7_code 163 = .ok (.getfield 83, 3) := by decide +kernel
theorem dAd_agreeAt_166 : decode prog_2_method_7_code 166 = .ok (.iload_n 2, 1) := by decide +kernel
theorem dAd_agreeAt_167 : decode prog_2_method_7_code 167 = .ok (.iaload, 1) := by decide +kernel
theorem dAd_agreeAt_168 : decode prog_2_method_7_code 168 = .ok (.iload 7, 2) := by decide +kernel
theorem dAd_agreeAt_170 : decode prog_2_method_7_code 170 = .ok (.iand, 1) := by decide +kernel
theorem dAd_agreeAt_171 : decode prog_2_method_7_code 171 = .ok (.iload 4, 2) := by decide +kernel
theorem dAd_agreeAt_173 : decode prog_2_method_7_code 173 = .ok (.iconst (-1), 1) := by decide +kernel
theorem dAd_agreeAt_174 : decode prog_2_method_7_code 174 = .ok (.ixor, 1) := by decide +kernel
theorem dAd_agreeAt_175 : decode prog_2_method_7_code 175 = .ok (.iand, 1) := by decide +kernel
theorem dAd_agreeAt_176 : decode prog_2_method_7_code 176 = .ok (.ifCond .eq (5), 3) := by decide +kernel
theorem dAd_agreeAt_179 : decode prog_2_method_7_code 179 = .ok (.iconst (0), 1) := by decide +kernel
theorem dAd_agreeAt_180 : decode prog_2_method_7_code 180 = .ok (.ireturn, 1) := by decide +kernel
theorem dAd_agreeAt_181 : decode prog_2_method_7_code 181 = .ok (.iload 5, 2) := by decide +kernel
theorem dAd_agreeAt_183 : decode prog_2_method_7_code 183 = .ok (.aload_n 0, 1) := by decide +kernel
theorem dAd_agreeAt_184 : decode prog_2_method_7_code 184 = .ok (.getfield 34, 3) := by decide +kernel
theorem dAd_agreeAt_187 : decode prog_2_method_7_code 187 = .ok (.getfield 86, 3) := by decide +kernel
theorem dAd_agreeAt_190 : decode prog_2_method_7_code 190 = .ok (.iload_n 2, 1) := by decide +kernel
theorem dAd_agreeAt_191 : decode prog_2_method_7_code 191 = .ok (.iaload, 1) := by decide +kernel
theorem dAd_agreeAt_192 : decode prog_2_method_7_code 192 = .ok (.iload 7, 2) := by decide +kernel
theorem dAd_agreeAt_194 : decode prog_2_method_7_code 194 = .ok (.iconst (-1), 1) := by decide +kernel
theorem dAd_agreeAt_195 : decode prog_2_method_7_code 195 = .ok (.ixor, 1) := by decide +kernel
theorem dAd_agreeAt_196 : decode prog_2_method_7_code 196 = .ok (.iand, 1) := by decide +kernel
theorem dAd_agreeAt_197 : decode prog_2_method_7_code 197 = .ok (.invokestatic 89, 3) := by decide +kernel
theorem dAd_agreeAt_200 : decode prog_2_method_7_code 200 = .ok (.if_icmp .gt (25), 3) := by decide +kernel
theorem dAd_agreeAt_203 : decode prog_2_method_7_code 203 = .ok (.aload_n 0, 1) := by decide +kernel
theorem dAd_agreeAt_204 : decode prog_2_method_7_code 204 = .ok (.getfield 34, 3) := by decide +kernel
theorem dAd_agreeAt_207 : decode prog_2_method_7_code 207 = .ok (.getfield 83, 3) := by decide +kernel
theorem dAd_agreeAt_210 : decode prog_2_method_7_code 210 = .ok (.iload_n 2, 1) := by decide +kernel
theorem dAd_agreeAt_211 : decode prog_2_method_7_code 211 = .ok (.iaload, 1) := by decide +kernel
theorem dAd_agreeAt_212 : decode prog_2_method_7_code 212 = .ok (.iload 7, 2) := by decide +kernel
theorem dAd_agreeAt_214 : decode prog_2_method_7_code 214 = .ok (.iconst (-1), 1) := by decide +kernel
theorem dAd_agreeAt_215 : decode prog_2_method_7_code 215 = .ok (.ixor, 1) := by decide +kernel
theorem dAd_agreeAt_216 : decode prog_2_method_7_code 216 = .ok (.iand, 1) := by decide +kernel
theorem dAd_agreeAt_217 : decode prog_2_method_7_code 217 = .ok (.invokestatic 89, 3) := by decide +kernel
theorem dAd_agreeAt_220 : decode prog_2_method_7_code 220 = .ok (.iload 6, 2) := by decide +kernel
theorem dAd_agreeAt_222 : decode prog_2_method_7_code 222 = .ok (.if_icmp .le (5), 3) := by decide +kernel
theorem dAd_agreeAt_225 : decode prog_2_method_7_code 225 = .ok (.iconst (0), 1) := by decide +kernel
theorem dAd_agreeAt_226 : decode prog_2_method_7_code 226 = .ok (.ireturn, 1) := by decide +kernel
theorem dAd_agreeAt_227 : decode prog_2_method_7_code 227 = .ok (.aload_n 0, 1) := by decide +kernel
theorem dAd_agreeAt_228 : decode prog_2_method_7_code 228 = .ok (.getfield 30, 3) := by decide +kernel
theorem dAd_agreeAt_231 : decode prog_2_method_7_code 231 = .ok (.getfield 83, 3) := by decide +kernel
theorem dAd_agreeAt_234 : decode prog_2_method_7_code 234 = .ok (.iload_n 1, 1) := by decide +kernel
theorem dAd_agreeAt_235 : decode prog_2_method_7_code 235 = .ok (.iaload, 1) := by decide +kernel
theorem dAd_agreeAt_236 : decode prog_2_method_7_code 236 = .ok (.aload_n 0, 1) := by decide +kernel
theorem dAd_agreeAt_237 : decode prog_2_method_7_code 237 = .ok (.getfield 34, 3) := by decide +kernel
theorem dAd_agreeAt_240 : decode prog_2_method_7_code 240 = .ok (.getfield 83, 3) := by decide +kernel
theorem dAd_agreeAt_243 : decode prog_2_method_7_code 243 = .ok (.iload_n 2, 1) := by decide +kernel
theorem dAd_agreeAt_244 : decode prog_2_method_7_code 244 = .ok (.iaload, 1) := by decide +kernel
theorem dAd_agreeAt_245 : decode prog_2_method_7_code 245 = .ok (.ior, 1) := by decide +kernel
theorem dAd_agreeAt_246 : decode prog_2_method_7_code 246 = .ok (.ifCond .ne (25), 3) := by decide +kernel
theorem dAd_agreeAt_249 : decode prog_2_method_7_code 249 = .ok (.aload_n 0, 1) := by decide +kernel
theorem dAd_agreeAt_250 : decode prog_2_method_7_code 250 = .ok (.getfield 30, 3) := by decide +kernel
theorem dAd_agreeAt_253 : decode prog_2_method_7_code 253 = .ok (.iload_n 1, 1) := by decide +kernel
theorem dAd_agreeAt_254 : decode prog_2_method_7_code 254 = .ok (.invokevirtual 95, 3) := by decide +kernel
theorem dAd_agreeAt_257 : decode prog_2_method_7_code 257 = .ok (.ifCond .eq (18), 3) := by decide +kernel
theorem dAd_agreeAt_260 : decode prog_2_method_7_code 260 = .ok (.aload_n 0, 1) := by decide +kernel
theorem dAd_agreeAt_261 : decode prog_2_method_7_code 261 = .ok (.getfield 34, 3) := by decide +kernel
theorem dAd_agreeAt_264 : decode prog_2_method_7_code 264 = .ok (.iload_n 2, 1) := by decide +kernel
theorem dAd_agreeAt_265 : decode prog_2_method_7_code 265 = .ok (.invokevirtual 95, 3) := by decide +kernel
theorem dAd_agreeAt_268 : decode prog_2_method_7_code 268 = .ok (.ifCond .eq (7), 3) := by decide +kernel
theorem dAd_agreeAt_271 : decode prog_2_method_7_code 271 = .ok (.iconst (1), 1) := by decide +kernel
theorem dAd_agreeAt_272 : decode prog_2_method_7_code 272 = .ok (.goto (4), 3) := by decide +kernel
theorem dAd_agreeAt_275 : decode prog_2_method_7_code 275 = .ok (.iconst (0), 1) := by decide +kernel
theorem dAd_agreeAt_276 : decode prog_2_method_7_code 276 = .ok (.ireturn, 1) := by decide +kernel
theorem dAd_passFrom_0 : decode prog_2_method_8_code 0 = .ok (.iconst (0), 1) := by decide +kernel
theorem dAd_passFrom_1 : decode prog_2_method_8_code 1 = .ok (.istore_n 3, 1) := by decide +kernel
theorem dAd_passFrom_2 : decode prog_2_method_8_code 2 = .ok (.iload_n 3, 1) := by decide +kernel
theorem dAd_passFrom_3 : decode prog_2_method_8_code 3 = .ok (.aload_n 0, 1) := by decide +kernel
theorem dAd_passFrom_4 : decode prog_2_method_8_code 4 = .ok (.getfield 41, 3) := by decide +kernel
theorem dAd_passFrom_7 : decode prog_2_method_8_code 7 = .ok (.if_icmp .ge (158), 3) := by decide +kernel
theorem dAd_passFrom_10 : decode prog_2_method_8_code 10 = .ok (.aload_n 0, 1) := by decide +kernel
theorem dAd_passFrom_11 : decode prog_2_method_8_code 11 = .ok (.getfield 15, 3) := by decide +kernel
theorem dAd_passFrom_14 : decode prog_2_method_8_code 14 = .ok (.iload_n 3, 1) := by decide +kernel
theorem dAd_passFrom_15 : decode prog_2_method_8_code 15 = .ok (.iaload, 1) := by decide +kernel
theorem dAd_passFrom_16 : decode prog_2_method_8_code 16 = .ok (.istore 4, 2) := by decide +kernel
theorem dAd_passFrom_18 : decode prog_2_method_8_code 18 = .ok (.aload_n 0, 1) := by decide +kernel
theorem dAd_passFrom_19 : decode prog_2_method_8_code 19 = .ok (.getfield 18, 3) := by decide +kernel
theorem dAd_passFrom_22 : decode prog_2_method_8_code 22 = .ok (.iload 4, 2) := by decide +kernel
theorem dAd_passFrom_24 : decode prog_2_method_8_code 24 = .ok (.iaload, 1) := by decide +kernel
theorem dAd_passFrom_25 : decode prog_2_method_8_code 25 = .ok (.istore 5, 2) := by decide +kernel
theorem dAd_passFrom_27 : decode prog_2_method_8_code 27 = .ok (.iload 5, 2) := by decide +kernel
theorem dAd_passFrom_29 : decode prog_2_method_8_code 29 = .ok (.iconst (-1), 1) := by decide +kernel
theorem dAd_passFrom_30 : decode prog_2_method_8_code 30 = .ok (.if_icmp .eq (63), 3) := by decide +kernel
theorem dAd_passFrom_33 : decode prog_2_method_8_code 33 = .ok (.aload_n 0, 1) := by decide +kernel
theorem dAd_passFrom_34 : decode prog_2_method_8_code 34 = .ok (.getfield 30, 3) := by decide +kernel
theorem dAd_passFrom_37 : decode prog_2_method_8_code 37 = .ok (.getfield 83, 3) := by decide +kernel
theorem dAd_passFrom_40 : decode prog_2_method_8_code 40 = .ok (.iload_n 1, 1) := by decide +kernel
theorem dAd_passFrom_41 : decode prog_2_method_8_code 41 = .ok (.iaload, 1) := by decide +kernel
theorem dAd_passFrom_42 : decode prog_2_method_8_code 42 = .ok (.iload 4, 2) := by decide +kernel
theorem dAd_passFrom_44 : decode prog_2_method_8_code 44 = .ok (.invokestatic 55, 3) := by decide +kernel
theorem dAd_passFrom_47 : decode prog_2_method_8_code 47 = .ok (.ifCond .eq (46), 3) := by decide +kernel
theorem dAd_passFrom_50 : decode prog_2_method_8_code 50 = .ok (.aload_n 0, 1) := by decide +kernel
theorem dAd_passFrom_51 : decode prog_2_method_8_code 51 = .ok (.getfield 34, 3) := by decide +kernel
theorem dAd_passFrom_54 : decode prog_2_method_8_code 54 = .ok (.getfield 86, 3) := by decide +kernel
theorem dAd_passFrom_57 : decode prog_2_method_8_code 57 = .ok (.iload_n 2, 1) := by decide +kernel
theorem dAd_passFrom_58 : decode prog_2_method_8_code 58 = .ok (.iaload, 1) := by decide +kernel
theorem dAd_passFrom_59 : decode prog_2_method_8_code 59 = .ok (.iload 5, 2) := by decide +kernel
theorem dAd_passFrom_61 : decode prog_2_method_8_code 61 = .ok (.invokestatic 55, 3) := by decide +kernel
theorem dAd_passFrom_64 : decode prog_2_method_8_code 64 = .ok (.ifCond .eq (29), 3) := by decide +kernel
theorem dAd_passFrom_67 : decode prog_2_method_8_code 67 = .ok (.aload_n 0, 1) := by decide +kernel
theorem dAd_passFrom_68 : decode prog_2_method_8_code 68 = .ok (.aload_n 0, 1) := by decide +kernel
theorem dAd_passFrom_69 : decode prog_2_method_8_code 69 = .ok (.getfield 30, 3) := by decide +kernel
theorem dAd_passFrom_72 : decode prog_2_method_8_code 72 = .ok (.iload_n 1, 1) := by decide +kernel
theorem dAd_passFrom_73 : decode prog_2_method_8_code 73 = .ok (.iconst (1), 1) := by decide +kernel
theorem dAd_passFrom_74 : decode prog_2_method_8_code 74 = .ok (.iload 4, 2) := by decide +kernel
theorem dAd_passFrom_76 : decode prog_2_method_8_code 76 = .ok (.invokevirtual 99, 3) := by decide +kernel
theorem dAd_passFrom_79 : decode prog_2_method_8_code 79 = .ok (.aload_n 0, 1) := by decide +kernel
theorem dAd_passFrom_80 : decode prog_2_method_8_code 80 = .ok (.getfield 34, 3) := by decide +kernel
theorem dAd_passFrom_83 : decode prog_2_method_8_code 83 = .ok (.iload_n 2, 1) := by decide +kernel
theorem dAd_passFrom_84 : decode prog_2_method_8_code 84 = .ok (.iconst (0), 1) := by decide +kernel
theorem dAd_passFrom_85 : decode prog_2_method_8_code 85 = .ok (.iload 5, 2) := by decide +kernel
theorem dAd_passFrom_87 : decode prog_2_method_8_code 87 = .ok (.invokevirtual 99, 3) := by decide +kernel
theorem dAd_passFrom_90 : decode prog_2_method_8_code 90 = .ok (.invokevirtual 73, 3) := by decide +kernel
theorem dAd_passFrom_93 : decode prog_2_method_8_code 93 = .ok (.iload 5, 2) := by decide +kernel
theorem dAd_passFrom_95 : decode prog_2_method_8_code 95 = .ok (.iconst (-1), 1) := by decide +kernel
theorem dAd_passFrom_96 : decode prog_2_method_8_code 96 = .ok (.if_icmp .eq (63), 3) := by decide +kernel
theorem dAd_passFrom_99 : decode prog_2_method_8_code 99 = .ok (.aload_n 0, 1) := by decide +kernel
theorem dAd_passFrom_100 : decode prog_2_method_8_code 100 = .ok (.getfield 30, 3) := by decide +kernel
theorem dAd_passFrom_103 : decode prog_2_method_8_code 103 = .ok (.getfield 86, 3) := by decide +kernel
theorem dAd_passFrom_106 : decode prog_2_method_8_code 106 = .ok (.iload_n 1, 1) := by decide +kernel
theorem dAd_passFrom_107 : decode prog_2_method_8_code 107 = .ok (.iaload, 1) := by decide +kernel
theorem dAd_passFrom_108 : decode prog_2_method_8_code 108 = .ok (.iload 4, 2) := by decide +kernel
theorem dAd_passFrom_110 : decode prog_2_method_8_code 110 = .ok (.invokestatic 55, 3) := by decide +kernel
theorem dAd_passFrom_113 : decode prog_2_method_8_code 113 = .ok (.ifCond .eq (46), 3) := by decide +kernel
theorem dAd_passFrom_116 : decode prog_2_method_8_code 116 = .ok (.aload_n 0, 1) := by decide +kernel
theorem dAd_passFrom_117 : decode prog_2_method_8_code 117 = .ok (.getfield 34, 3) := by decide +kernel
theorem dAd_passFrom_120 : decode prog_2_method_8_code 120 = .ok (.getfield 83, 3) := by decide +kernel
theorem dAd_passFrom_123 : decode prog_2_method_8_code 123 = .ok (.iload_n 2, 1) := by decide +kernel
theorem dAd_passFrom_124 : decode prog_2_method_8_code 124 = .ok (.iaload, 1) := by decide +kernel
theorem dAd_passFrom_125 : decode prog_2_method_8_code 125 = .ok (.iload 5, 2) := by decide +kernel
theorem dAd_passFrom_127 : decode prog_2_method_8_code 127 = .ok (.invokestatic 55, 3) := by decide +kernel
theorem dAd_passFrom_130 : decode prog_2_method_8_code 130 = .ok (.ifCond .eq (29), 3) := by decide +kernel
theorem dAd_passFrom_133 : decode prog_2_method_8_code 133 = .ok (.aload_n 0, 1) := by decide +kernel
theorem dAd_passFrom_134 : decode prog_2_method_8_code 134 = .ok (.aload_n 0, 1) := by decide +kernel
theorem dAd_passFrom_135 : decode prog_2_method_8_code 135 = .ok (.getfield 30, 3) := by decide +kernel
theorem dAd_passFrom_138 : decode prog_2_method_8_code 138 = .ok (.iload_n 1, 1) := by decide +kernel
theorem dAd_passFrom_139 : decode prog_2_method_8_code 139 = .ok (.iconst (0), 1) := by decide +kernel
theorem dAd_passFrom_140 : decode prog_2_method_8_code 140 = .ok (.iload 4, 2) := by decide +kernel
theorem dAd_passFrom_142 : decode prog_2_method_8_code 142 = .ok (.invokevirtual 99, 3) := by decide +kernel
theorem dAd_passFrom_145 : decode prog_2_method_8_code 145 = .ok (.aload_n 0, 1) := by decide +kernel
theorem dAd_passFrom_146 : decode prog_2_method_8_code 146 = .ok (.getfield 34, 3) := by decide +kernel
theorem dAd_passFrom_149 : decode prog_2_method_8_code 149 = .ok (.iload_n 2, 1) := by decide +kernel
theorem dAd_passFrom_150 : decode prog_2_method_8_code 150 = .ok (.iconst (1), 1) := by decide +kernel
theorem dAd_passFrom_151 : decode prog_2_method_8_code 151 = .ok (.iload 5, 2) := by decide +kernel
theorem dAd_passFrom_153 : decode prog_2_method_8_code 153 = .ok (.invokevirtual 99, 3) := by decide +kernel
theorem dAd_passFrom_156 : decode prog_2_method_8_code 156 = .ok (.invokevirtual 73, 3) := by decide +kernel
theorem dAd_passFrom_159 : decode prog_2_method_8_code 159 = .ok (.iinc 3 (1), 3) := by decide +kernel
theorem dAd_passFrom_162 : decode prog_2_method_8_code 162 = .ok (.goto (-160), 3) := by decide +kernel
theorem dAd_passFrom_165 : decode prog_2_method_8_code 165 = .ok (.return_, 1) := by decide +kernel
theorem dAd_agree_0 : decode prog_2_method_6_code 0 = .ok (.aload_n 0, 1) := by decide +kernel
theorem dAd_agree_1 : decode prog_2_method_6_code 1 = .ok (.getfield 24, 3) := by decide +kernel
theorem dAd_agree_4 : decode prog_2_method_6_code 4 = .ok (.iconst (0), 1) := by decide +kernel
theorem dAd_agree_5 : decode prog_2_method_6_code 5 = .ok (.invokestatic 44, 3) := by decide +kernel
theorem dAd_agree_8 : decode prog_2_method_6_code 8 = .ok (.aload_n 0, 1) := by decide +kernel
theorem dAd_agree_9 : decode prog_2_method_6_code 9 = .ok (.iconst (0), 1) := by decide +kernel
theorem dAd_agree_10 : decode prog_2_method_6_code 10 = .ok (.putfield 70, 3) := by decide +kernel
theorem dAd_agree_13 : decode prog_2_method_6_code 13 = .ok (.aload_n 0, 1) := by decide +kernel
theorem dAd_agree_14 : decode prog_2_method_6_code 14 = .ok (.iconst (0), 1) := by decide +kernel
theorem dAd_agree_15 : decode prog_2_method_6_code 15 = .ok (.iconst (0), 1) := by decide +kernel
theorem dAd_agree_16 : decode prog_2_method_6_code 16 = .ok (.invokevirtual 73, 3) := by decide +kernel
theorem dAd_agree_19 : decode prog_2_method_6_code 19 = .ok (.iconst (0), 1) := by decide +kernel
theorem dAd_agree_20 : decode prog_2_method_6_code 20 = .ok (.istore_n 1, 1) := by decide +kernel
theorem dAd_agree_21 : decode prog_2_method_6_code 21 = .ok (.iload_n 1, 1) := by decide +kernel
theorem dAd_agree_22 : decode prog_2_method_6_code 22 = .ok (.sipush (625), 3) := by decide +kernel
theorem dAd_agree_25 : decode prog_2_method_6_code 25 = .ok (.if_icmp .ge (68), 3) := by decide +kernel
theorem dAd_agree_28 : decode prog_2_method_6_code 28 = .ok (.aload_n 0, 1) := by decide +kernel
theorem dAd_agree_29 : decode prog_2_method_6_code 29 = .ok (.getfield 70, 3) := by decide +kernel
theorem dAd_agree_32 : decode prog_2_method_6_code 32 = .ok (.ifCond .le (61), 3) := by decide +kernel
theorem dAd_agree_35 : decode prog_2_method_6_code 35 = .ok (.aload_n 0, 1) := by decide +kernel
theorem dAd_agree_36 : decode prog_2_method_6_code 36 = .ok (.dup, 1) := by decide +kernel
theorem dAd_agree_37 : decode prog_2_method_6_code 37 = .ok (.getfield 70, 3) := by decide +kernel
theorem dAd_agree_40 : decode prog_2_method_6_code 40 = .ok (.iconst (1), 1) := by decide +kernel
theorem dAd_agree_41 : decode prog_2_method_6_code 41 = .ok (.isub, 1) := by decide +kernel
theorem dAd_agree_42 : decode prog_2_method_6_code 42 = .ok (.putfield 70, 3) := by decide +kernel
theorem dAd_agree_45 : decode prog_2_method_6_code 45 = .ok (.aload_n 0, 1) := by decide +kernel
theorem dAd_agree_46 : decode prog_2_method_6_code 46 = .ok (.getfield 27, 3) := by decide +kernel
theorem dAd_agree_49 : decode prog_2_method_6_code 49 = .ok (.aload_n 0, 1) := by decide +kernel
theorem dAd_agree_50 : decode prog_2_method_6_code 50 = .ok (.getfield 70, 3) := by decide +kernel
