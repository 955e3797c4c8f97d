theorem dM_mean_77 : decode prog_14_method_81_code 77 = .ok (.ldc2_w 360, 3) := by decide +kernel
theorem dM_mean_80 : decode prog_14_method_81_code 80 = .ok (.ldc2_w 350, 3) := by decide +kernel
theorem dM_mean_83 : decode prog_14_method_81_code 83 = .ok (.lload 10, 2) := by decide +kernel
theorem dM_mean_85 : decode prog_14_method_81_code 85 = .ok (.lmul, 1) := by decide +kernel
theorem dM_mean_86 : decode prog_14_method_81_code 86 = .ok (.ladd, 1) := by decide +kernel
theorem dM_mean_87 : decode prog_14_method_81_code 87 = .ok (.goto (23), 3) := by decide +kernel
theorem dM_mean_90 : decode prog_14_method_81_code 90 = .ok (.ldc2_w 362, 3) := by decide +kernel
theorem dM_mean_93 : decode prog_14_method_81_code 93 = .ok (.ldc2_w 360, 3) := by decide +kernel
theorem dM_mean_96 : decode prog_14_method_81_code 96 = .ok (.lload 10, 2) := by decide +kernel
theorem dM_mean_98 : decode prog_14_method_81_code 98 = .ok (.lmul, 1) := by decide +kernel
theorem dM_mean_99 : decode prog_14_method_81_code 99 = .ok (.ladd, 1) := by decide +kernel
theorem dM_mean_100 : decode prog_14_method_81_code 100 = .ok (.ldc2_w 350, 3) := by decide +kernel
theorem dM_mean_103 : decode prog_14_method_81_code 103 = .ok (.lload 10, 2) := by decide +kernel
theorem dM_mean_105 : decode prog_14_method_81_code 105 = .ok (.lmul, 1) := by decide +kernel
theorem dM_mean_106 : decode prog_14_method_81_code 106 = .ok (.lload 10, 2) := by decide +kernel
theorem dM_mean_108 : decode prog_14_method_81_code 108 = .ok (.lmul, 1) := by decide +kernel
theorem dM_mean_109 : decode prog_14_method_81_code 109 = .ok (.ladd, 1) := by decide +kernel
theorem dM_mean_110 : decode prog_14_method_81_code 110 = .ok (.lstore 12, 2) := by decide +kernel
theorem dM_mean_112 : decode prog_14_method_81_code 112 = .ok (.lload_n 3, 1) := by decide +kernel
theorem dM_mean_113 : decode prog_14_method_81_code 113 = .ok (.ldc2_w 350, 3) := by decide +kernel
theorem dM_mean_116 : decode prog_14_method_81_code 116 = .ok (.iload_n 1, 1) := by decide +kernel
theorem dM_mean_117 : decode prog_14_method_81_code 117 = .ok (.invokestatic 352, 3) := by decide +kernel
theorem dM_mean_120 : decode prog_14_method_81_code 120 = .ok (.lmul, 1) := by decide +kernel
theorem dM_mean_121 : decode prog_14_method_81_code 121 = .ok (.lload 5, 2) := by decide +kernel
theorem dM_mean_123 : decode prog_14_method_81_code 123 = .ok (.aload_n 0, 1) := by decide +kernel
theorem dM_mean_124 : decode prog_14_method_81_code 124 = .ok (.getfield 33, 3) := by decide +kernel
theorem dM_mean_127 : decode prog_14_method_81_code 127 = .ok (.iconst (5), 1) := by decide +kernel
theorem dM_mean_128 : decode prog_14_method_81_code 128 = .ok (.aload_n 0, 1) := by decide +kernel
theorem dM_mean_129 : decode prog_14_method_81_code 129 = .ok (.getfield 39, 3) := by decide +kernel
theorem dM_mean_132 : decode prog_14_method_81_code 132 = .ok (.iload 9, 2) := by decide +kernel
theorem dM_mean_134 : decode prog_14_method_81_code 134 = .ok (.iaload, 1) := by decide +kernel
theorem dM_mean_135 : decode prog_14_method_81_code 135 = .ok (.imul, 1) := by decide +kernel
theorem dM_mean_136 : decode prog_14_method_81_code 136 = .ok (.iaload, 1) := by decide +kernel
theorem dM_mean_137 : decode prog_14_method_81_code 137 = .ok (.i2l, 1) := by decide +kernel
theorem dM_mean_138 : decode prog_14_method_81_code 138 = .ok (.lmul, 1) := by decide +kernel
theorem dM_mean_139 : decode prog_14_method_81_code 139 = .ok (.lload 12, 2) := by decide +kernel
theorem dM_mean_141 : decode prog_14_method_81_code 141 = .ok (.lmul, 1) := by decide +kernel
theorem dM_mean_142 : decode prog_14_method_81_code 142 = .ok (.ladd, 1) := by decide +kernel
theorem dM_mean_143 : decode prog_14_method_81_code 143 = .ok (.lstore_n 3, 1) := by decide +kernel
theorem dM_mean_144 : decode prog_14_method_81_code 144 = .ok (.lload 5, 2) := by decide +kernel
theorem dM_mean_146 : decode prog_14_method_81_code 146 = .ok (.ldc2_w 350, 3) := by decide +kernel
theorem dM_mean_149 : decode prog_14_method_81_code 149 = .ok (.iload_n 1, 1) := by decide +kernel
theorem dM_mean_150 : decode prog_14_method_81_code 150 = .ok (.invokestatic 352, 3) := by decide +kernel
theorem dM_mean_153 : decode prog_14_method_81_code 153 = .ok (.lload 10, 2) := by decide +kernel
theorem dM_mean_155 : decode prog_14_method_81_code 155 = .ok (.iload_n 1, 1) := by decide +kernel
theorem dM_mean_156 : decode prog_14_method_81_code 156 = .ok (.invokestatic 352, 3) := by decide +kernel
theorem dM_mean_159 : decode prog_14_method_81_code 159 = .ok (.lsub, 1) := by decide +kernel
theorem dM_mean_160 : decode prog_14_method_81_code 160 = .ok (.lmul, 1) := by decide +kernel
theorem dM_mean_161 : decode prog_14_method_81_code 161 = .ok (.lstore 5, 2) := by decide +kernel
theorem dM_mean_163 : decode prog_14_method_81_code 163 = .ok (.lload 7, 2) := by decide +kernel
theorem dM_mean_165 : decode prog_14_method_81_code 165 = .ok (.ldc2_w 350, 3) := by decide +kernel
theorem dM_mean_168 : decode prog_14_method_81_code 168 = .ok (.iload_n 1, 1) := by decide +kernel
theorem dM_mean_169 : decode prog_14_method_81_code 169 = .ok (.invokestatic 352, 3) := by decide +kernel
theorem dM_mean_172 : decode prog_14_method_81_code 172 = .ok (.lmul, 1) := by decide +kernel
theorem dM_mean_173 : decode prog_14_method_81_code 173 = .ok (.lstore 7, 2) := by decide +kernel
theorem dM_mean_175 : decode prog_14_method_81_code 175 = .ok (.iinc 9 (1), 3) := by decide +kernel
theorem dM_mean_178 : decode prog_14_method_81_code 178 = .ok (.goto (-145), 3) := by decide +kernel
theorem dM_mean_181 : decode prog_14_method_81_code 181 = .ok (.lload_n 3, 1) := by decide +kernel
theorem dM_mean_182 : decode prog_14_method_81_code 182 = .ok (.lload 7, 2) := by decide +kernel
theorem dM_mean_184 : decode prog_14_method_81_code 184 = .ok (.iload_n 2, 1) := by decide +kernel
theorem dM_mean_185 : decode prog_14_method_81_code 185 = .ok (.invokestatic 356, 3) := by decide +kernel
theorem dM_mean_188 : decode prog_14_method_81_code 188 = .ok (.lreturn, 1) := by decide +kernel
theorem dRo_isUndone_0 : decode prog_9_method_12_code 0 = .ok (.aload_n 0, 1) := by decide +kernel
theorem dRo_isUndone_1 : decode prog_9_method_12_code 1 = .ok (.getfield 31, 3) := by decide +kernel
theorem dRo_isUndone_4 : decode prog_9_method_12_code 4 = .ok (.aload_n 0, 1) := by decide +kernel
theorem dRo_isUndone_5 : decode prog_9_method_12_code 5 = .ok (.getfield 26, 3) := by decide +kernel
theorem dRo_isUndone_8 : decode prog_9_method_12_code 8 = .ok (.iload_n 2, 1) := by decide +kernel
theorem dRo_isUndone_9 : decode prog_9_method_12_code 9 = .ok (.aaload, 1) := by decide +kernel
theorem dRo_isUndone_10 : decode prog_9_method_12_code 10 = .ok (.invokevirtual 67, 3) := by decide +kernel
theorem dRo_isUndone_13 : decode prog_9_method_12_code 13 = .ok (.iload_n 2, 1) := by decide +kernel
theorem dRo_isUndone_14 : decode prog_9_method_12_code 14 = .ok (.iconst (1), 1) := by decide +kernel
theorem dRo_isUndone_15 : decode prog_9_method_12_code 15 = .ok (.isub, 1) := by decide +kernel
theorem dRo_isUndone_16 : decode prog_9_method_12_code 16 = .ok (.istore_n 3, 1) := by decide +kernel
theorem dRo_isUndone_17 : decode prog_9_method_12_code 17 = .ok (.iload_n 3, 1) := by decide +kernel
theorem dRo_isUndone_18 : decode prog_9_method_12_code 18 = .ok (.ifCond .lt (63), 3) := by decide +kernel
theorem dRo_isUndone_21 : decode prog_9_method_12_code 21 = .ok (.aload_n 0, 1) := by decide +kernel
theorem dRo_isUndone_22 : decode prog_9_method_12_code 22 = .ok (.iload_n 3, 1) := by decide +kernel
theorem dRo_isUndone_23 : decode prog_9_method_12_code 23 = .ok (.invokevirtual 48, 3) := by decide +kernel
theorem dRo_isUndone_26 : decode prog_9_method_12_code 26 = .ok (.getfield 52, 3) := by decide +kernel
theorem dRo_isUndone_29 : decode prog_9_method_12_code 29 = .ok (.iconst (4), 1) := by decide +kernel
theorem dRo_isUndone_30 : decode prog_9_method_12_code 30 = .ok (.iaload, 1) := by decide +kernel
theorem dRo_isUndone_31 : decode prog_9_method_12_code 31 = .ok (.istore 4, 2) := by decide +kernel
theorem dRo_isUndone_33 : decode prog_9_method_12_code 33 = .ok (.aload_n 0, 1) := by decide +kernel
theorem dRo_isUndone_34 : decode prog_9_method_12_code 34 = .ok (.iload 4, 2) := by decide +kernel
theorem dRo_isUndone_36 : decode prog_9_method_12_code 36 = .ok (.invokevirtual 103, 3) := by decide +kernel
theorem dRo_isUndone_39 : decode prog_9_method_12_code 39 = .ok (.astore 5, 2) := by decide +kernel
theorem dRo_isUndone_41 : decode prog_9_method_12_code 41 = .ok (.aload 5, 2) := by decide +kernel
theorem dRo_isUndone_43 : decode prog_9_method_12_code 43 = .ok (.ifnull (15), 3) := by decide +kernel
theorem dRo_isUndone_46 : decode prog_9_method_12_code 46 = .ok (.aload_n 0, 1) := by decide +kernel
theorem dRo_isUndone_47 : decode prog_9_method_12_code 47 = .ok (.getfield 31, 3) := by decide +kernel
theorem dRo_isUndone_50 : decode prog_9_method_12_code 50 = .ok (.aload 5, 2) := by decide +kernel
theorem dRo_isUndone_52 : decode prog_9_method_12_code 52 = .ok (.invokevirtual 106, 3) := by decide +kernel
theorem dRo_isUndone_55 : decode prog_9_method_12_code 55 = .ok (.ifCond .ne (5), 3) := by decide +kernel
theorem dRo_isUndone_58 : decode prog_9_method_12_code 58 = .ok (.iconst (0), 1) := by decide +kernel
theorem dRo_isUndone_59 : decode prog_9_method_12_code 59 = .ok (.ireturn, 1) := by decide +kernel
theorem dRo_isUndone_60 : decode prog_9_method_12_code 60 = .ok (.aload_n 0, 1) := by decide +kernel
theorem dRo_isUndone_61 : decode prog_9_method_12_code 61 = .ok (.getfield 31, 3) := by decide +kernel
theorem dRo_isUndone_64 : decode prog_9_method_12_code 64 = .ok (.aload 5, 2) := by decide +kernel
theorem dRo_isUndone_66 : decode prog_9_method_12_code 66 = .ok (.iload 4, 2) := by decide +kernel
theorem dRo_isUndone_68 : decode prog_9_method_12_code 68 = .ok (.aload_n 0, 1) := by decide +kernel
theorem dRo_isUndone_69 : decode prog_9_method_12_code 69 = .ok (.getfield 17, 3) := by decide +kernel
theorem dRo_isUndone_72 : decode prog_9_method_12_code 72 = .ok (.invokevirtual 71, 3) := by decide +kernel
theorem dRo_isUndone_75 : decode prog_9_method_12_code 75 = .ok (.iinc 3 (-1), 3) := by decide +kernel
theorem dRo_isUndone_78 : decode prog_9_method_12_code 78 = .ok (.goto (-61), 3) := by decide +kernel
theorem dRo_isUndone_81 : decode prog_9_method_12_code 81 = .ok (.aload_n 0, 1) := by decide +kernel
theorem dRo_isUndone_82 : decode prog_9_method_12_code 82 = .ok (.getfield 31, 3) := by decide +kernel
theorem dRo_isUndone_85 : decode prog_9_method_12_code 85 = .ok (.getfield 96, 3) := by decide +kernel
theorem dRo_isUndone_88 : decode prog_9_method_12_code 88 = .ok (.iload_n 1, 1) := by decide +kernel
theorem dRo_isUndone_89 : decode prog_9_method_12_code 89 = .ok (.if_icmp .ne (7), 3) := by decide +kernel
theorem dRo_isUndone_92 : decode prog_9_method_12_code 92 = .ok (.iconst (1), 1) := by decide +kernel
theorem dRo_isUndone_93 : decode prog_9_method_12_code 93 = .ok (.goto (4), 3) := by decide +kernel
theorem dRo_isUndone_96 : decode prog_9_method_12_code 96 = .ok (.iconst (0), 1) := by decide +kernel
theorem dRo_isUndone_97 : decode prog_9_method_12_code 97 = .ok (.ireturn, 1) := by decide +kernel
theorem dRo_undoings_0 : decode prog_9_method_11_code 0 = .ok (.iconst (0), 1) := by decide +kernel
theorem dRo_undoings_1 : decode prog_9_method_11_code 1 = .ok (.istore_n 2, 1) := by decide +kernel
theorem dRo_undoings_2 : decode prog_9_method_11_code 2 = .ok (.iconst (0), 1) := by decide +kernel
theorem dRo_undoings_3 : decode prog_9_method_11_code 3 = .ok (.istore_n 3, 1) := by decide +kernel
theorem dRo_undoings_4 : decode prog_9_method_11_code 4 = .ok (.iload_n 3, 1) := by decide +kernel
theorem dRo_undoings_5 : decode prog_9_method_11_code 5 = .ok (.aload_n 0, 1) := by decide +kernel
theorem dRo_undoings_6 : decode prog_9_method_11_code 6 = .ok (.getfield 45, 3) := by decide +kernel
theorem dRo_undoings_9 : decode prog_9_method_11_code 9 = .ok (.if_icmp .gt (28), 3) := by decide +kernel
theorem dRo_undoings_12 : decode prog_9_method_11_code 12 = .ok (.iload_n 2, 1) := by decide +kernel
theorem dRo_undoings_13 : decode prog_9_method_11_code 13 = .ok (.aload_n 0, 1) := by decide +kernel
theorem dRo_undoings_14 : decode prog_9_method_11_code 14 = .ok (.iload_n 1, 1) := by decide +kernel
theorem dRo_undoings_15 : decode prog_9_method_11_code 15 = .ok (.iload_n 3, 1) := by decide +kernel
theorem dRo_undoings_16 : decode prog_9_method_11_code 16 = .ok (.invokevirtual 99, 3) := by decide +kernel
theorem dRo_undoings_19 : decode prog_9_method_11_code 19 = .ok (.ifCond .eq (9), 3) := by decide +kernel
theorem dRo_undoings_22 : decode prog_9_method_11_code 22 = .ok (.iconst (1), 1) := by decide +kernel
theorem dRo_undoings_23 : decode prog_9_method_11_code 23 = .ok (.iload_n 3, 1) := by decide +kernel
theorem dRo_undoings_24 : decode prog_9_method_11_code 24 = .ok (.ishl, 1) := by decide +kernel
theorem dRo_undoings_25 : decode prog_9_method_11_code 25 = .ok (.goto (4), 3) := by decide +kernel
theorem dRo_undoings_28 : decode prog_9_method_11_code 28 = .ok (.iconst (0), 1) := by decide +kernel
theorem dRo_undoings_29 : decode prog_9_method_11_code 29 = .ok (.ior, 1) := by decide +kernel
theorem dRo_undoings_30 : decode prog_9_method_11_code 30 = .ok (.istore_n 2, 1) := by decide +kernel
theorem dRo_undoings_31 : decode prog_9_method_11_code 31 = .ok (.iinc 3 (1), 3) := by decide +kernel
theorem dRo_undoings_34 : decode prog_9_method_11_code 34 = .ok (.goto (-30), 3) := by decide +kernel
theorem dRo_undoings_37 : decode prog_9_method_11_code 37 = .ok (.iload_n 2, 1) := by decide +kernel
theorem dRo_undoings_38 : decode prog_9_method_11_code 38 = .ok (.ireturn, 1) := by decide +kernel
theorem dC_undone_0 : decode prog_1_method_31_code 0 = .ok (.aload_n 0, 1) := by decide +kernel
theorem dC_undone_1 : decode prog_1_method_31_code 1 = .ok (.iload_n 1, 1) := by decide +kernel
theorem dC_undone_2 : decode prog_1_method_31_code 2 = .ok (.invokevirtual 194, 3) := by decide +kernel
theorem dC_undone_5 : decode prog_1_method_31_code 5 = .ok (.istore_n 2, 1) := by decide +kernel
theorem dC_undone_6 : decode prog_1_method_31_code 6 = .ok (.iload_n 2, 1) := by decide +kernel
theorem dC_undone_7 : decode prog_1_method_31_code 7 = .ok (.ifCond .eq (7), 3) := by decide +kernel
theorem dC_undone_10 : decode prog_1_method_31_code 10 = .ok (.iload_n 2, 1) := by decide +kernel
theorem dC_undone_11 : decode prog_1_method_31_code 11 = .ok (.goto (11), 3) := by decide +kernel
theorem dC_undone_14 : decode prog_1_method_31_code 14 = .ok (.aload_n 0, 1) := by decide +kernel
theorem dC_undone_15 : decode prog_1_method_31_code 15 = .ok (.getfield 46, 3) := by decide +kernel
theorem dC_undone_18 : decode prog_1_method_31_code 18 = .ok (.iload_n 1, 1) := by decide +kernel
theorem dC_undone_19 : decode prog_1_method_31_code 19 = .ok (.invokevirtual 249, 3) := by decide +kernel
theorem dC_undone_22 : decode prog_1_method_31_code 22 = .ok (.ireturn, 1) := by decide +kernel
theorem dM_holdsBack_0 : decode prog_14_method_82_code 0 = .ok (.aload_n 0, 1) := by decide +kernel
theorem dM_holdsBack_1 : decode prog_14_method_82_code 1 = .ok (.iload_n 1, 1) := by decide +kernel
theorem dM_holdsBack_2 : decode prog_14_method_82_code 2 = .ok (.invokevirtual 324, 3) := by decide +kernel
theorem dM_holdsBack_5 : decode prog_14_method_82_code 5 = .ok (.iconst (0), 1) := by decide +kernel
theorem dM_holdsBack_6 : decode prog_14_method_82_code 6 = .ok (.istore_n 3, 1) := by decide +kernel
theorem dM_holdsBack_7 : decode prog_14_method_82_code 7 = .ok (.iload_n 3, 1) := by decide +kernel
theorem dM_holdsBack_8 : decode prog_14_method_82_code 8 = .ok (.iload_n 2, 1) := by decide +kernel
theorem dM_holdsBack_9 : decode prog_14_method_82_code 9 = .ok (.if_icmp .ge (19), 3) := by decide +kernel
theorem dM_holdsBack_12 : decode prog_14_method_82_code 12 = .ok (.aload_n 0, 1) := by decide +kernel
theorem dM_holdsBack_13 : decode prog_14_method_82_code 13 = .ok (.aload_n 0, 1) := by decide +kernel
theorem dM_holdsBack_14 : decode prog_14_method_82_code 14 = .ok (.getfield 39, 3) := by decide +kernel
theorem dM_holdsBack_17 : decode prog_14_method_82_code 17 = .ok (.iload_n 3, 1) := by decide +kernel
theorem dM_holdsBack_18 : decode prog_14_method_82_code 18 = .ok (.iaload, 1) := by decide +kernel
theorem dM_holdsBack_19 : decode prog_14_method_82_code 19 = .ok (.invokevirtual 330, 3) := by decide +kernel
theorem dM_holdsBack_22 : decode prog_14_method_82_code 22 = .ok (.iinc 3 (1), 3) := by decide +kernel
theorem dM_holdsBack_25 : decode prog_14_method_82_code 25 = .ok (.goto (-18), 3) := by decide +kernel
theorem dM_holdsBack_28 : decode prog_14_method_82_code 28 = .ok (.iload_n 2, 1) := by decide +kernel
theorem dM_holdsBack_29 : decode prog_14_method_82_code 29 = .ok (.iconst (1), 1) := by decide +kernel
theorem dM_holdsBack_30 : decode prog_14_method_82_code 30 = .ok (.isub, 1) := by decide +kernel
theorem dM_holdsBack_31 : decode prog_14_method_82_code 31 = .ok (.istore_n 3, 1) := by decide +kernel
theorem dM_holdsBack_32 : decode prog_14_method_82_code 32 = .ok (.iload_n 3, 1) := by decide +kernel
theorem dM_holdsBack_33 : decode prog_14_method_82_code 33 = .ok (.ifCond .lt (49), 3) := by decide +kernel
theorem dM_holdsBack_36 : decode prog_14_method_82_code 36 = .ok (.aload_n 0, 1) := by decide +kernel
theorem dM_holdsBack_37 : decode prog_14_method_82_code 37 = .ok (.getfield 33, 3) := by decide +kernel
theorem dM_holdsBack_40 : decode prog_14_method_82_code 40 = .ok (.iconst (5), 1) := by decide +kernel
theorem dM_holdsBack_41 : decode prog_14_method_82_code 41 = .ok (.aload_n 0, 1) := by decide +kernel
theorem dM_holdsBack_42 : decode prog_14_method_82_code 42 = .ok (.getfield 39, 3) := by decide +kernel
theorem dM_holdsBack_45 : decode prog_14_method_82_code 45 = .ok (.iload_n 3, 1) := by decide +kernel
theorem dM_holdsBack_46 : decode prog_14_method_82_code 46 = .ok (.iaload, 1) := by decide +kernel
theorem dM_holdsBack_47 : decode prog_14_method_82_code 47 = .ok (.imul, 1) := by decide +kernel
theorem dM_holdsBack_48 : decode prog_14_method_82_code 48 = .ok (.iconst (4), 1) := by decide +kernel
theorem dM_holdsBack_49 : decode prog_14_method_82_code 49 = .ok (.iadd, 1) := by decide +kernel
theorem dM_holdsBack_50 : decode prog_14_method_82_code 50 = .ok (.iaload, 1) := by decide +kernel
theorem dM_holdsBack_51 : decode prog_14_method_82_code 51 = .ok (.istore 4, 2) := by decide +kernel
theorem dM_holdsBack_53 : decode prog_14_method_82_code 53 = .ok (.iload 4, 2) := by decide +kernel
theorem dM_holdsBack_55 : decode prog_14_method_82_code 55 = .ok (.iconst (-1), 1) := by decide +kernel
theorem dM_holdsBack_56 : decode prog_14_method_82_code 56 = .ok (.if_icmp .eq (12), 3) := by decide +kernel
theorem dM_holdsBack_59 : decode prog_14_method_82_code 59 = .ok (.aload_n 0, 1) := by decide +kernel
theorem dM_holdsBack_60 : decode prog_14_method_82_code 60 = .ok (.iload 4, 2) := by decide +kernel
theorem dM_holdsBack_62 : decode prog_14_method_82_code 62 = .ok (.invokevirtual 327, 3) := by decide +kernel
theorem dM_holdsBack_65 : decode prog_14_method_82_code 65 = .ok (.ifCond .ne (5), 3) := by decide +kernel
theorem dM_holdsBack_68 : decode prog_14_method_82_code 68 = .ok (.iconst (0), 1) := by decide +kernel
theorem dM_holdsBack_69 : decode prog_14_method_82_code 69 = .ok (.ireturn, 1) := by decide +kernel
theorem dM_holdsBack_70 : decode prog_14_method_82_code 70 = .ok (.aload_n 0, 1) := by decide +kernel
theorem dM_holdsBack_71 : decode prog_14_method_82_code 71 = .ok (.iload 4, 2) := by decide +kernel
theorem dM_holdsBack_73 : decode prog_14_method_82_code 73 = .ok (.invokevirtual 330, 3) := by decide +kernel
theorem dM_holdsBack_76 : decode prog_14_method_82_code 76 = .ok (.iinc 3 (-1), 3) := by decide +kernel
theorem dM_holdsBack_79 : decode prog_14_method_82_code 79 = .ok (.goto (-47), 3) := by decide +kernel
theorem dM_holdsBack_82 : decode prog_14_method_82_code 82 = .ok (.aload_n 0, 1) := by decide +kernel
theorem dM_holdsBack_83 : decode prog_14_method_82_code 83 = .ok (.getfield 318, 3) := by decide +kernel
theorem dM_holdsBack_86 : decode prog_14_method_82_code 86 = .ok (.iload_n 1, 1) := by decide +kernel
theorem dM_holdsBack_87 : decode prog_14_method_82_code 87 = .ok (.if_icmp .ne (7), 3) := by decide +kernel
theorem dM_holdsBack_90 : decode prog_14_method_82_code 90 = .ok (.iconst (1), 1) := by decide +kernel
theorem dM_holdsBack_91 : decode prog_14_method_82_code 91 = .ok (.goto (4), 3) := by decide +kernel
theorem dM_holdsBack_94 : decode prog_14_method_82_code 94 = .ok (.iconst (0), 1) := by decide +kernel
theorem dM_holdsBack_95 : decode prog_14_method_82_code 95 = .ok (.ireturn, 1) := by decide +kernel
theorem dM_undone_0 : decode prog_14_method_83_code 0 = .ok (.iload_n 1, 1) := by decide +kernel
theorem dM_undone_1 : decode prog_14_method_83_code 1 = .ok (.invokestatic 306, 3) := by decide +kernel
theorem dM_undone_4 : decode prog_14_method_83_code 4 = .ok (.ifCond .ne (6), 3) := by decide +kernel
theorem dM_undone_7 : decode prog_14_method_83_code 7 = .ok (.bipush (-102), 2) := by decide +kernel
theorem dM_undone_9 : decode prog_14_method_83_code 9 = .ok (.ireturn, 1) := by decide +kernel
theorem dM_undone_10 : decode prog_14_method_83_code 10 = .ok (.aload_n 0, 1) := by decide +kernel
theorem dM_undone_11 : decode prog_14_method_83_code 11 = .ok (.aload_n 0, 1) := by decide +kernel
theorem dM_undone_12 : decode prog_14_method_83_code 12 = .ok (.getfield 39, 3) := by decide +kernel
theorem dM_undone_15 : decode prog_14_method_83_code 15 = .ok (.aload_n 0, 1) := by decide +kernel
theorem dM_undone_16 : decode prog_14_method_83_code 16 = .ok (.getfield 315, 3) := by decide +kernel
theorem dM_undone_19 : decode prog_14_method_83_code 19 = .ok (.iload_n 1, 1) := by decide +kernel
theorem dM_undone_20 : decode prog_14_method_83_code 20 = .ok (.invokevirtual 333, 3) := by decide +kernel
theorem dM_undone_23 : decode prog_14_method_83_code 23 = .ok (.iconst (-1), 1) := by decide +kernel
theorem dM_undone_24 : decode prog_14_method_83_code 24 = .ok (.if_icmp .eq (6), 3) := by decide +kernel
theorem dM_undone_27 : decode prog_14_method_83_code 27 = .ok (.bipush (-103), 2) := by decide +kernel
theorem dM_undone_29 : decode prog_14_method_83_code 29 = .ok (.ireturn, 1) := by decide +kernel
theorem dM_undone_30 : decode prog_14_method_83_code 30 = .ok (.iconst (0), 1) := by decide +kernel
theorem dM_undone_31 : decode prog_14_method_83_code 31 = .ok (.istore_n 2, 1) := by decide +kernel
theorem dM_undone_32 : decode prog_14_method_83_code 32 = .ok (.iconst (0), 1) := by decide +kernel
theorem dM_undone_33 : decode prog_14_method_83_code 33 = .ok (.istore_n 3, 1) := by decide +kernel
theorem dM_undone_34 : decode prog_14_method_83_code 34 = .ok (.iload_n 3, 1) := by decide +kernel
theorem dM_undone_35 : decode prog_14_method_83_code 35 = .ok (.aload_n 0, 1) := by decide +kernel
theorem dM_undone_36 : decode prog_14_method_83_code 36 = .ok (.getfield 315, 3) := by decide +kernel
theorem dM_undone_39 : decode prog_14_method_83_code 39 = .ok (.if_icmp .gt (28), 3) := by decide +kernel
theorem dM_undone_42 : decode prog_14_method_83_code 42 = .ok (.iload_n 2, 1) := by decide +kernel
theorem dM_undone_43 : decode prog_14_method_83_code 43 = .ok (.aload_n 0, 1) := by decide +kernel
theorem dM_undone_44 : decode prog_14_method_83_code 44 = .ok (.iload_n 1, 1) := by decide +kernel
theorem dM_undone_45 : decode prog_14_method_83_code 45 = .ok (.iload_n 3, 1) := by decide +kernel
theorem dM_undone_46 : decode prog_14_method_83_code 46 = .ok (.invokevirtual 364, 3) := by decide +kernel
theorem dM_undone_49 : decode prog_14_method_83_code 49 = .ok (.ifCond .eq (9), 3) := by decide +kernel
theorem dM_undone_52 : decode prog_14_method_83_code 52 = .ok (.iconst (1), 1) := by decide +kernel
theorem dM_undone_53 : decode prog_14_method_83_code 53 = .ok (.iload_n 3, 1) := by decide +kernel
theorem dM_undone_54 : decode prog_14_method_83_code 54 = .ok (.ishl, 1) := by decide +kernel
theorem dM_undone_55 : decode prog_14_method_83_code 55 = .ok (.goto (4), 3) := by decide +kernel
theorem dM_undone_58 : decode prog_14_method_83_code 58 = .ok (.iconst (0), 1) := by decide +kernel
theorem dM_undone_59 : decode prog_14_method_83_code 59 = .ok (.ior, 1) := by decide +kernel
theorem dM_undone_60 : decode prog_14_method_83_code 60 = .ok (.istore_n 2, 1) := by decide +kernel
theorem dM_undone_61 : decode prog_14_method_83_code 61 = .ok (.iinc 3 (1), 3) := by decide +kernel
theorem dM_undone_64 : decode prog_14_method_83_code 64 = .ok (.goto (-30), 3) := by decide +kernel
theorem dM_undone_67 : decode prog_14_method_83_code 67 = .ok (.iload_n 2, 1) := by decide +kernel
theorem dM_undone_68 : decode prog_14_method_83_code 68 = .ok (.ireturn, 1) := by decide +kernel
theorem dC_begin_0 : decode prog_1_method_32_code 0 = .ok (.iload_n 1, 1) := by decide +kernel
theorem dC_begin_1 : decode prog_1_method_32_code 1 = .ok (.invokestatic 152, 3) := by decide +kernel
theorem dC_begin_4 : decode prog_1_method_32_code 4 = .ok (.ifCond .ne (6), 3) := by decide +kernel
theorem dC_begin_7 : decode prog_1_method_32_code 7 = .ok (.bipush (-102), 2) := by decide +kernel
theorem dC_begin_9 : decode prog_1_method_32_code 9 = .ok (.ireturn, 1) := by decide +kernel
theorem dC_begin_10 : decode prog_1_method_32_code 10 = .ok (.aload_n 0, 1) := by decide +kernel
theorem dC_begin_11 : decode prog_1_method_32_code 11 = .ok (.getfield 53, 3) := by decide +kernel
theorem dC_begin_14 : decode prog_1_method_32_code 14 = .ok (.iload_n 1, 1) := by decide +kernel
theorem dC_begin_15 : decode prog_1_method_32_code 15 = .ok (.invokevirtual 57, 3) := by decide +kernel
theorem dC_begin_18 : decode prog_1_method_32_code 18 = .ok (.iconst (1), 1) := by decide +kernel
theorem dC_begin_19 : decode prog_1_method_32_code 19 = .ok (.ireturn, 1) := by decide +kernel
theorem dM_begin_0 : decode prog_14_method_84_code 0 = .ok (.iload_n 1, 1) := by decide +kernel
theorem dM_begin_1 : decode prog_14_method_84_code 1 = .ok (.invokestatic 306, 3) := by decide +kernel
theorem dM_begin_4 : decode prog_14_method_84_code 4 = .ok (.ifCond .ne (6), 3) := by decide +kernel
theorem dM_begin_7 : decode prog_14_method_84_code 7 = .ok (.bipush (-102), 2) := by decide +kernel
theorem dM_begin_9 : decode prog_14_method_84_code 9 = .ok (.ireturn, 1) := by decide +kernel
theorem dM_begin_10 : decode prog_14_method_84_code 10 = .ok (.aload_n 0, 1) := by decide +kernel
theorem dM_begin_11 : decode prog_14_method_84_code 11 = .ok (.iload_n 1, 1) := by decide +kernel
theorem dM_begin_12 : decode prog_14_method_84_code 12 = .ok (.putfield 367, 3) := by decide +kernel
theorem dM_begin_15 : decode prog_14_method_84_code 15 = .ok (.aload_n 0, 1) := by decide +kernel
theorem dM_begin_16 : decode prog_14_method_84_code 16 = .ok (.iconst (0), 1) := by decide +kernel
theorem dM_begin_17 : decode prog_14_method_84_code 17 = .ok (.putfield 370, 3) := by decide +kernel
theorem dM_begin_20 : decode prog_14_method_84_code 20 = .ok (.iconst (1), 1) := by decide +kernel
theorem dM_begin_21 : decode prog_14_method_84_code 21 = .ok (.ireturn, 1) := by decide +kernel
theorem dWo_become_0 : decode prog_12_method_2_code 0 = .ok (.aload_n 1, 1) := by decide +kernel
theorem dWo_become_1 : decode prog_12_method_2_code 1 = .ok (.getfield 9, 3) := by decide +kernel
theorem dWo_become_4 : decode prog_12_method_2_code 4 = .ok (.iconst (0), 1) := by decide +kernel
theorem dWo_become_5 : decode prog_12_method_2_code 5 = .ok (.aload_n 0, 1) := by decide +kernel
theorem dWo_become_6 : decode prog_12_method_2_code 6 = .ok (.getfield 9, 3) := by decide +kernel
theorem dWo_become_9 : decode prog_12_method_2_code 9 = .ok (.iconst (0), 1) := by decide +kernel
theorem dWo_become_10 : decode prog_12_method_2_code 10 = .ok (.bipush (64), 2) := by decide +kernel
theorem dWo_become_12 : decode prog_12_method_2_code 12 = .ok (.invokestatic 15, 3) := by decide +kernel
theorem dWo_become_15 : decode prog_12_method_2_code 15 = .ok (.return_, 1) := by decide +kernel
theorem dLo_addEvent_0 : decode prog_7_method_6_code 0 = .ok (.aload_n 0, 1) := by decide +kernel
theorem dLo_addEvent_1 : decode prog_7_method_6_code 1 = .ok (.getfield 22, 3) := by decide +kernel
theorem dLo_addEvent_4 : decode prog_7_method_6_code 4 = .ok (.bipush (30), 2) := by decide +kernel
theorem dLo_addEvent_6 : decode prog_7_method_6_code 6 = .ok (.if_icmp .ge (36), 3) := by decide +kernel
theorem dLo_addEvent_9 : decode prog_7_method_6_code 9 = .ok (.aload_n 0, 1) := by decide +kernel
theorem dLo_addEvent_10 : decode prog_7_method_6_code 10 = .ok (.getfield 11, 3) := by decide +kernel
theorem dLo_addEvent_13 : decode prog_7_method_6_code 13 = .ok (.aload_n 0, 1) := by decide +kernel
theorem dLo_addEvent_14 : decode prog_7_method_6_code 14 = .ok (.getfield 22, 3) := by decide +kernel
theorem dLo_addEvent_17 : decode prog_7_method_6_code 17 = .ok (.iconst (1), 1) := by decide +kernel
theorem dLo_addEvent_18 : decode prog_7_method_6_code 18 = .ok (.iadd, 1) := by decide +kernel
theorem dLo_addEvent_19 : decode prog_7_method_6_code 19 = .ok (.aaload, 1) := by decide +kernel
theorem dLo_addEvent_20 : decode prog_7_method_6_code 20 = .ok (.aload_n 0, 1) := by decide +kernel
theorem dLo_addEvent_21 : decode prog_7_method_6_code 21 = .ok (.getfield 11, 3) := by decide +kernel
theorem dLo_addEvent_24 : decode prog_7_method_6_code 24 = .ok (.aload_n 0, 1) := by decide +kernel
theorem dLo_addEvent_25 : decode prog_7_method_6_code 25 = .ok (.getfield 22, 3) := by decide +kernel
theorem dLo_addEvent_28 : decode prog_7_method_6_code 28 = .ok (.aaload, 1) := by decide +kernel
theorem dLo_addEvent_29 : decode prog_7_method_6_code 29 = .ok (.invokevirtual 38, 3) := by decide +kernel
theorem dLo_addEvent_32 : decode prog_7_method_6_code 32 = .ok (.aload_n 0, 1) := by decide +kernel
theorem dLo_addEvent_33 : decode prog_7_method_6_code 33 = .ok (.dup, 1) := by decide +kernel
theorem dLo_addEvent_34 : decode prog_7_method_6_code 34 = .ok (.getfield 22, 3) := by decide +kernel
theorem dLo_addEvent_37 : decode prog_7_method_6_code 37 = .ok (.iconst (1), 1) := by decide +kernel
theorem dLo_addEvent_38 : decode prog_7_method_6_code 38 = .ok (.iadd, 1) := by decide +kernel
theorem dLo_addEvent_39 : decode prog_7_method_6_code 39 = .ok (.putfield 22, 3) := by decide +kernel
theorem dLo_addEvent_42 : decode prog_7_method_6_code 42 = .ok (.aload_n 0, 1) := by decide +kernel
theorem dLo_addEvent_43 : decode prog_7_method_6_code 43 = .ok (.getfield 11, 3) := by decide +kernel
theorem dLo_addEvent_46 : decode prog_7_method_6_code 46 = .ok (.aload_n 0, 1) := by decide +kernel
theorem dLo_addEvent_47 : decode prog_7_method_6_code 47 = .ok (.getfield 22, 3) := by decide +kernel
theorem dLo_addEvent_50 : decode prog_7_method_6_code 50 = .ok (.aaload, 1) := by decide +kernel
theorem dLo_addEvent_51 : decode prog_7_method_6_code 51 = .ok (.areturn, 1) := by decide +kernel
theorem dWo_holders_0 : decode prog_12_method_5_code 0 = .ok (.iload_n 1, 1) := by decide +kernel
theorem dWo_holders_1 : decode prog_12_method_5_code 1 = .ok (.bipush (6), 2) := by decide +kernel
theorem dWo_holders_3 : decode prog_12_method_5_code 3 = .ok (.if_icmp .ge (9), 3) := by decide +kernel
theorem dWo_holders_6 : decode prog_12_method_5_code 6 = .ok (.getstatic 27, 3) := by decide +kernel
theorem dWo_holders_9 : decode prog_12_method_5_code 9 = .ok (.iload_n 1, 1) := by decide +kernel
theorem dWo_holders_10 : decode prog_12_method_5_code 10 = .ok (.laload, 1) := by decide +kernel
theorem dWo_holders_11 : decode prog_12_method_5_code 11 = .ok (.lreturn, 1) := by decide +kernel
theorem dWo_holders_12 : decode prog_12_method_5_code 12 = .ok (.iload_n 0, 1) := by decide +kernel
theorem dWo_holders_13 : decode prog_12_method_5_code 13 = .ok (.iload_n 1, 1) := by decide +kernel
theorem dWo_holders_14 : decode prog_12_method_5_code 14 = .ok (.bipush (6), 2) := by decide +kernel
theorem dWo_holders_16 : decode prog_12_method_5_code 16 = .ok (.isub, 1) := by decide +kernel
theorem dWo_holders_17 : decode prog_12_method_5_code 17 = .ok (.invokestatic 30, 3) := by decide +kernel
theorem dWo_holders_20 : decode prog_12_method_5_code 20 = .ok (.ifCond .eq (9), 3) := by decide +kernel
theorem dWo_holders_23 : decode prog_12_method_5_code 23 = .ok (.ldc2_w 34, 3) := by decide +kernel
theorem dWo_holders_26 : decode prog_12_method_5_code 26 = .ok (.goto (4), 3) := by decide +kernel
theorem dWo_holders_29 : decode prog_12_method_5_code 29 = .ok (.lconst 0, 1) := by decide +kernel
theorem dWo_holders_30 : decode prog_12_method_5_code 30 = .ok (.lreturn, 1) := by decide +kernel
theorem dWo_keep_0 : decode prog_12_method_6_code 0 = .ok (.iconst (0), 1) := by decide +kernel
theorem dWo_keep_1 : decode prog_12_method_6_code 1 = .ok (.istore_n 3, 1) := by decide +kernel
theorem dWo_keep_2 : decode prog_12_method_6_code 2 = .ok (.iload_n 3, 1) := by decide +kernel
theorem dWo_keep_3 : decode prog_12_method_6_code 3 = .ok (.bipush (64), 2) := by decide +kernel
theorem dWo_keep_5 : decode prog_12_method_6_code 5 = .ok (.if_icmp .ge (39), 3) := by decide +kernel
theorem dWo_keep_8 : decode prog_12_method_6_code 8 = .ok (.aload_n 0, 1) := by decide +kernel
theorem dWo_keep_9 : decode prog_12_method_6_code 9 = .ok (.getfield 9, 3) := by decide +kernel
theorem dWo_keep_12 : decode prog_12_method_6_code 12 = .ok (.iload_n 3, 1) := by decide +kernel
theorem dWo_keep_13 : decode prog_12_method_6_code 13 = .ok (.dup2, 1) := by decide +kernel
theorem dWo_keep_14 : decode prog_12_method_6_code 14 = .ok (.laload, 1) := by decide +kernel
theorem dWo_keep_15 : decode prog_12_method_6_code 15 = .ok (.iload_n 2, 1) := by decide +kernel
theorem dWo_keep_16 : decode prog_12_method_6_code 16 = .ok (.ifCond .eq (11), 3) := by decide +kernel
theorem dWo_keep_19 : decode prog_12_method_6_code 19 = .ok (.iload_n 3, 1) := by decide +kernel
theorem dWo_keep_20 : decode prog_12_method_6_code 20 = .ok (.iload_n 1, 1) := by decide +kernel
theorem dWo_keep_21 : decode prog_12_method_6_code 21 = .ok (.invokestatic 36, 3) := by decide +kernel
theorem dWo_keep_24 : decode prog_12_method_6_code 24 = .ok (.goto (12), 3) := by decide +kernel
theorem dWo_keep_27 : decode prog_12_method_6_code 27 = .ok (.iload_n 3, 1) := by decide +kernel
theorem dWo_keep_28 : decode prog_12_method_6_code 28 = .ok (.iload_n 1, 1) := by decide +kernel
theorem dWo_keep_29 : decode prog_12_method_6_code 29 = .ok (.invokestatic 36, 3) := by decide +kernel
theorem dWo_keep_32 : decode prog_12_method_6_code 32 = .ok (.ldc2_w 34, 3) := by decide +kernel
theorem dWo_keep_35 : decode prog_12_method_6_code 35 = .ok (.lxor, 1) := by decide +kernel
theorem dWo_keep_36 : decode prog_12_method_6_code 36 = .ok (.land, 1) := by decide +kernel
theorem dWo_keep_37 : decode prog_12_method_6_code 37 = .ok (.lastore, 1) := by decide +kernel
theorem dWo_keep_38 : decode prog_12_method_6_code 38 = .ok (.iinc 3 (1), 3) := by decide +kernel
theorem dWo_keep_41 : decode prog_12_method_6_code 41 = .ok (.goto (-39), 3) := by decide +kernel
theorem dWo_keep_44 : decode prog_12_method_6_code 44 = .ok (.return_, 1) := by decide +kernel
theorem dWo_movedWithin_0 : decode prog_12_method_9_code 0 = .ok (.lload_n 0, 1) := by decide +kernel
theorem dWo_movedWithin_1 : decode prog_12_method_9_code 1 = .ok (.getstatic 27, 3) := by decide +kernel
theorem dWo_movedWithin_4 : decode prog_12_method_9_code 4 = .ok (.iload_n 2, 1) := by decide +kernel
theorem dWo_movedWithin_5 : decode prog_12_method_9_code 5 = .ok (.laload, 1) := by decide +kernel
theorem dWo_movedWithin_6 : decode prog_12_method_9_code 6 = .ok (.land, 1) := by decide +kernel
theorem dWo_movedWithin_7 : decode prog_12_method_9_code 7 = .ok (.lstore 4, 2) := by decide +kernel
theorem dWo_movedWithin_9 : decode prog_12_method_9_code 9 = .ok (.lload_n 0, 1) := by decide +kernel
theorem dWo_movedWithin_10 : decode prog_12_method_9_code 10 = .ok (.getstatic 27, 3) := by decide +kernel
theorem dWo_movedWithin_13 : decode prog_12_method_9_code 13 = .ok (.iload_n 2, 1) := by decide +kernel
theorem dWo_movedWithin_14 : decode prog_12_method_9_code 14 = .ok (.laload, 1) := by decide +kernel
theorem dWo_movedWithin_15 : decode prog_12_method_9_code 15 = .ok (.ldc2_w 34, 3) := by decide +kernel
theorem dWo_movedWithin_18 : decode prog_12_method_9_code 18 = .ok (.lxor, 1) := by decide +kernel
theorem dWo_movedWithin_19 : decode prog_12_method_9_code 19 = .ok (.land, 1) := by decide +kernel
theorem dWo_movedWithin_20 : decode prog_12_method_9_code 20 = .ok (.lstore 6, 2) := by decide +kernel
theorem dWo_movedWithin_22 : decode prog_12_method_9_code 22 = .ok (.iload_n 3, 1) := by decide +kernel
theorem dWo_movedWithin_23 : decode prog_12_method_9_code 23 = .ok (.ifCond .eq (15), 3) := by decide +kernel
theorem dWo_movedWithin_26 : decode prog_12_method_9_code 26 = .ok (.lload 4, 2) := by decide +kernel
theorem dWo_movedWithin_28 : decode prog_12_method_9_code 28 = .ok (.lload 6, 2) := by decide +kernel
theorem dWo_movedWithin_30 : decode prog_12_method_9_code 30 = .ok (.iconst (1), 1) := by decide +kernel
theorem dWo_movedWithin_31 : decode prog_12_method_9_code 31 = .ok (.iload_n 2, 1) := by decide +kernel
theorem dWo_movedWithin_32 : decode prog_12_method_9_code 32 = .ok (.ishl, 1) := by decide +kernel
theorem dWo_movedWithin_33 : decode prog_12_method_9_code 33 = .ok (.lshl, 1) := by decide +kernel
theorem dWo_movedWithin_34 : decode prog_12_method_9_code 34 = .ok (.lor, 1) := by decide +kernel
theorem dWo_movedWithin_35 : decode prog_12_method_9_code 35 = .ok (.goto (12), 3) := by decide +kernel
theorem dWo_movedWithin_38 : decode prog_12_method_9_code 38 = .ok (.lload 6, 2) := by decide +kernel
theorem dWo_movedWithin_40 : decode prog_12_method_9_code 40 = .ok (.lload 4, 2) := by decide +kernel
theorem dWo_movedWithin_42 : decode prog_12_method_9_code 42 = .ok (.iconst (1), 1) := by decide +kernel
theorem dWo_movedWithin_43 : decode prog_12_method_9_code 43 = .ok (.iload_n 2, 1) := by decide +kernel
theorem dWo_movedWithin_44 : decode prog_12_method_9_code 44 = .ok (.ishl, 1) := by decide +kernel
theorem dWo_movedWithin_45 : decode prog_12_method_9_code 45 = .ok (.lushr, 1) := by decide +kernel
theorem dWo_movedWithin_46 : decode prog_12_method_9_code 46 = .ok (.lor, 1) := by decide +kernel
theorem dWo_movedWithin_47 : decode prog_12_method_9_code 47 = .ok (.lreturn, 1) := by decide +kernel
theorem dWo_move_0 : decode prog_12_method_8_code 0 = .ok (.iconst (0), 1) := by decide +kernel
theorem dWo_move_1 : decode prog_12_method_8_code 1 = .ok (.istore_n 3, 1) := by decide +kernel
theorem dWo_move_2 : decode prog_12_method_8_code 2 = .ok (.iload_n 3, 1) := by decide +kernel
theorem dWo_move_3 : decode prog_12_method_8_code 3 = .ok (.bipush (64), 2) := by decide +kernel
theorem dWo_move_5 : decode prog_12_method_8_code 5 = .ok (.if_icmp .ge (81), 3) := by decide +kernel
theorem dWo_move_8 : decode prog_12_method_8_code 8 = .ok (.iload_n 1, 1) := by decide +kernel
theorem dWo_move_9 : decode prog_12_method_8_code 9 = .ok (.bipush (6), 2) := by decide +kernel
theorem dWo_move_11 : decode prog_12_method_8_code 11 = .ok (.if_icmp .ge (23), 3) := by decide +kernel
theorem dWo_move_14 : decode prog_12_method_8_code 14 = .ok (.aload_n 0, 1) := by decide +kernel
theorem dWo_move_15 : decode prog_12_method_8_code 15 = .ok (.getfield 9, 3) := by decide +kernel
theorem dWo_move_18 : decode prog_12_method_8_code 18 = .ok (.iload_n 3, 1) := by decide +kernel
theorem dWo_move_19 : decode prog_12_method_8_code 19 = .ok (.aload_n 0, 1) := by decide +kernel
theorem dWo_move_20 : decode prog_12_method_8_code 20 = .ok (.getfield 9, 3) := by decide +kernel
theorem dWo_move_23 : decode prog_12_method_8_code 23 = .ok (.iload_n 3, 1) := by decide +kernel
theorem dWo_move_24 : decode prog_12_method_8_code 24 = .ok (.laload, 1) := by decide +kernel
theorem dWo_move_25 : decode prog_12_method_8_code 25 = .ok (.iload_n 1, 1) := by decide +kernel
theorem dWo_move_26 : decode prog_12_method_8_code 26 = .ok (.iload_n 2, 1) := by decide +kernel
theorem dWo_move_27 : decode prog_12_method_8_code 27 = .ok (.invokestatic 53, 3) := by decide +kernel
theorem dWo_move_30 : decode prog_12_method_8_code 30 = .ok (.lastore, 1) := by decide +kernel
theorem dWo_move_31 : decode prog_12_method_8_code 31 = .ok (.goto (49), 3) := by decide +kernel
theorem dWo_move_34 : decode prog_12_method_8_code 34 = .ok (.iload_n 3, 1) := by decide +kernel
theorem dWo_move_35 : decode prog_12_method_8_code 35 = .ok (.iload_n 1, 1) := by decide +kernel
theorem dWo_move_36 : decode prog_12_method_8_code 36 = .ok (.bipush (6), 2) := by decide +kernel
theorem dWo_move_38 : decode prog_12_method_8_code 38 = .ok (.isub, 1) := by decide +kernel
theorem dWo_move_39 : decode prog_12_method_8_code 39 = .ok (.invokestatic 30, 3) := by decide +kernel
theorem dWo_move_42 : decode prog_12_method_8_code 42 = .ok (.iload_n 2, 1) := by decide +kernel
theorem dWo_move_43 : decode prog_12_method_8_code 43 = .ok (.if_icmp .ne (37), 3) := by decide +kernel
theorem dWo_move_46 : decode prog_12_method_8_code 46 = .ok (.iload_n 3, 1) := by decide +kernel
theorem dWo_move_47 : decode prog_12_method_8_code 47 = .ok (.iconst (1), 1) := by decide +kernel
theorem dWo_move_48 : decode prog_12_method_8_code 48 = .ok (.iload_n 1, 1) := by decide +kernel
theorem dWo_move_49 : decode prog_12_method_8_code 49 = .ok (.bipush (6), 2) := by decide +kernel
theorem dWo_move_51 : decode prog_12_method_8_code 51 = .ok (.isub, 1) := by decide +kernel
theorem dWo_move_52 : decode prog_12_method_8_code 52 = .ok (.ishl, 1) := by decide +kernel
theorem dWo_move_53 : decode prog_12_method_8_code 53 = .ok (.ixor, 1) := by decide +kernel
theorem dWo_move_54 : decode prog_12_method_8_code 54 = .ok (.istore 4, 2) := by decide +kernel
theorem dWo_move_56 : decode prog_12_method_8_code 56 = .ok (.aload_n 0, 1) := by decide +kernel
theorem dWo_move_57 : decode prog_12_method_8_code 57 = .ok (.getfield 9, 3) := by decide +kernel
theorem dWo_move_60 : decode prog_12_method_8_code 60 = .ok (.iload_n 3, 1) := by decide +kernel
theorem dWo_move_61 : decode prog_12_method_8_code 61 = .ok (.dup2, 1) := by decide +kernel
theorem dWo_move_62 : decode prog_12_method_8_code 62 = .ok (.laload, 1) := by decide +kernel
theorem dWo_move_63 : decode prog_12_method_8_code 63 = .ok (.aload_n 0, 1) := by decide +kernel
theorem dWo_move_64 : decode prog_12_method_8_code 64 = .ok (.getfield 9, 3) := by decide +kernel
theorem dWo_move_67 : decode prog_12_method_8_code 67 = .ok (.iload 4, 2) := by decide +kernel
theorem dWo_move_69 : decode prog_12_method_8_code 69 = .ok (.laload, 1) := by decide +kernel
theorem dWo_move_70 : decode prog_12_method_8_code 70 = .ok (.lor, 1) := by decide +kernel
theorem dWo_move_71 : decode prog_12_method_8_code 71 = .ok (.lastore, 1) := by decide +kernel
theorem dWo_move_72 : decode prog_12_method_8_code 72 = .ok (.aload_n 0, 1) := by decide +kernel
theorem dWo_move_73 : decode prog_12_method_8_code 73 = .ok (.getfield 9, 3) := by decide +kernel
theorem dWo_move_76 : decode prog_12_method_8_code 76 = .ok (.iload 4, 2) := by decide +kernel
theorem dWo_move_78 : decode prog_12_method_8_code 78 = .ok (.lconst 0, 1) := by decide +kernel
theorem dWo_move_79 : decode prog_12_method_8_code 79 = .ok (.lastore, 1) := by decide +kernel
theorem dWo_move_80 : decode prog_12_method_8_code 80 = .ok (.iinc 3 (1), 3) := by decide +kernel
theorem dWo_move_83 : decode prog_12_method_8_code 83 = .ok (.goto (-81), 3) := by decide +kernel
theorem dWo_move_86 : decode prog_12_method_8_code 86 = .ok (.return_, 1) := by decide +kernel
theorem dWo_change_0 : decode prog_12_method_7_code 0 = .ok (.iconst (0), 1) := by decide +kernel
theorem dWo_change_1 : decode prog_12_method_7_code 1 = .ok (.istore_n 2, 1) := by decide +kernel
theorem dWo_change_2 : decode prog_12_method_7_code 2 = .ok (.iload_n 2, 1) := by decide +kernel
theorem dWo_change_3 : decode prog_12_method_7_code 3 = .ok (.bipush (12), 2) := by decide +kernel
theorem dWo_change_5 : decode prog_12_method_7_code 5 = .ok (.if_icmp .ge (28), 3) := by decide +kernel
theorem dWo_change_8 : decode prog_12_method_7_code 8 = .ok (.aload_n 1, 1) := by decide +kernel
theorem dWo_change_9 : decode prog_12_method_7_code 9 = .ok (.getfield 40, 3) := by decide +kernel
theorem dWo_change_12 : decode prog_12_method_7_code 12 = .ok (.iconst (5), 1) := by decide +kernel
theorem dWo_change_13 : decode prog_12_method_7_code 13 = .ok (.iaload, 1) := by decide +kernel
theorem dWo_change_14 : decode prog_12_method_7_code 14 = .ok (.iload_n 2, 1) := by decide +kernel
theorem dWo_change_15 : decode prog_12_method_7_code 15 = .ok (.invokestatic 30, 3) := by decide +kernel
theorem dWo_change_18 : decode prog_12_method_7_code 18 = .ok (.ifCond .eq (9), 3) := by decide +kernel
theorem dWo_change_21 : decode prog_12_method_7_code 21 = .ok (.aload_n 0, 1) := by decide +kernel
theorem dWo_change_22 : decode prog_12_method_7_code 22 = .ok (.iload_n 2, 1) := by decide +kernel
theorem dWo_change_23 : decode prog_12_method_7_code 23 = .ok (.iconst (1), 1) := by decide +kernel
theorem dWo_change_24 : decode prog_12_method_7_code 24 = .ok (.invokevirtual 46, 3) := by decide +kernel
theorem dWo_change_27 : decode prog_12_method_7_code 27 = .ok (.iinc 2 (1), 3) := by decide +kernel
theorem dWo_change_30 : decode prog_12_method_7_code 30 = .ok (.goto (-28), 3) := by decide +kernel
theorem dWo_change_33 : decode prog_12_method_7_code 33 = .ok (.iconst (0), 1) := by decide +kernel
theorem dWo_change_34 : decode prog_12_method_7_code 34 = .ok (.istore_n 2, 1) := by decide +kernel
theorem dWo_change_35 : decode prog_12_method_7_code 35 = .ok (.iload_n 2, 1) := by decide +kernel
theorem dWo_change_36 : decode prog_12_method_7_code 36 = .ok (.bipush (12), 2) := by decide +kernel
theorem dWo_change_38 : decode prog_12_method_7_code 38 = .ok (.if_icmp .ge (52), 3) := by decide +kernel
theorem dWo_change_41 : decode prog_12_method_7_code 41 = .ok (.aload_n 1, 1) := by decide +kernel
theorem dWo_change_42 : decode prog_12_method_7_code 42 = .ok (.getfield 40, 3) := by decide +kernel
theorem dWo_change_45 : decode prog_12_method_7_code 45 = .ok (.bipush (6), 2) := by decide +kernel
theorem dWo_change_47 : decode prog_12_method_7_code 47 = .ok (.iaload, 1) := by decide +kernel
theorem dWo_change_48 : decode prog_12_method_7_code 48 = .ok (.iload_n 2, 1) := by decide +kernel
theorem dWo_change_49 : decode prog_12_method_7_code 49 = .ok (.invokestatic 30, 3) := by decide +kernel
theorem dWo_change_52 : decode prog_12_method_7_code 52 = .ok (.ifCond .eq (12), 3) := by decide +kernel
theorem dWo_change_55 : decode prog_12_method_7_code 55 = .ok (.aload_n 0, 1) := by decide +kernel
theorem dWo_change_56 : decode prog_12_method_7_code 56 = .ok (.iload_n 2, 1) := by decide +kernel
theorem dWo_change_57 : decode prog_12_method_7_code 57 = .ok (.iconst (1), 1) := by decide +kernel
theorem dWo_change_58 : decode prog_12_method_7_code 58 = .ok (.invokevirtual 50, 3) := by decide +kernel
theorem dWo_change_61 : decode prog_12_method_7_code 61 = .ok (.goto (23), 3) := by decide +kernel
theorem dWo_change_64 : decode prog_12_method_7_code 64 = .ok (.aload_n 1, 1) := by decide +kernel
theorem dWo_change_65 : decode prog_12_method_7_code 65 = .ok (.getfield 40, 3) := by decide +kernel
theorem dWo_change_68 : decode prog_12_method_7_code 68 = .ok (.bipush (7), 2) := by decide +kernel
theorem dWo_change_70 : decode prog_12_method_7_code 70 = .ok (.iaload, 1) := by decide +kernel
theorem dWo_change_71 : decode prog_12_method_7_code 71 = .ok (.iload_n 2, 1) := by decide +kernel
theorem dWo_change_72 : decode prog_12_method_7_code 72 = .ok (.invokestatic 30, 3) := by decide +kernel
theorem dWo_change_75 : decode prog_12_method_7_code 75 = .ok (.ifCond .eq (9), 3) := by decide +kernel
theorem dWo_change_78 : decode prog_12_method_7_code 78 = .ok (.aload_n 0, 1) := by decide +kernel
theorem dWo_change_79 : decode prog_12_method_7_code 79 = .ok (.iload_n 2, 1) := by decide +kernel
theorem dWo_change_80 : decode prog_12_method_7_code 80 = .ok (.iconst (0), 1) := by decide +kernel
theorem dWo_change_81 : decode prog_12_method_7_code 81 = .ok (.invokevirtual 50, 3) := by decide +kernel
theorem dWo_change_84 : decode prog_12_method_7_code 84 = .ok (.iinc 2 (1), 3) := by decide +kernel
theorem dWo_change_87 : decode prog_12_method_7_code 87 = .ok (.goto (-52), 3) := by decide +kernel
theorem dWo_change_90 : decode prog_12_method_7_code 90 = .ok (.return_, 1) := by decide +kernel
theorem dWo_add_0 : decode prog_12_method_4_code 0 = .ok (.iconst (0), 1) := by decide +kernel
theorem dWo_add_1 : decode prog_12_method_4_code 1 = .ok (.istore_n 2, 1) := by decide +kernel
theorem dWo_add_2 : decode prog_12_method_4_code 2 = .ok (.iload_n 2, 1) := by decide +kernel
theorem dWo_add_3 : decode prog_12_method_4_code 3 = .ok (.bipush (64), 2) := by decide +kernel
theorem dWo_add_5 : decode prog_12_method_4_code 5 = .ok (.if_icmp .ge (24), 3) := by decide +kernel
theorem dWo_add_8 : decode prog_12_method_4_code 8 = .ok (.aload_n 0, 1) := by decide +kernel
theorem dWo_add_9 : decode prog_12_method_4_code 9 = .ok (.getfield 9, 3) := by decide +kernel
theorem dWo_add_12 : decode prog_12_method_4_code 12 = .ok (.iload_n 2, 1) := by decide +kernel
theorem dWo_add_13 : decode prog_12_method_4_code 13 = .ok (.dup2, 1) := by decide +kernel
theorem dWo_add_14 : decode prog_12_method_4_code 14 = .ok (.laload, 1) := by decide +kernel
theorem dWo_add_15 : decode prog_12_method_4_code 15 = .ok (.aload_n 1, 1) := by decide +kernel
theorem dWo_add_16 : decode prog_12_method_4_code 16 = .ok (.getfield 9, 3) := by decide +kernel
theorem dWo_add_19 : decode prog_12_method_4_code 19 = .ok (.iload_n 2, 1) := by decide +kernel
theorem dWo_add_20 : decode prog_12_method_4_code 20 = .ok (.laload, 1) := by decide +kernel
theorem dWo_add_21 : decode prog_12_method_4_code 21 = .ok (.lor, 1) := by decide +kernel
theorem dWo_add_22 : decode prog_12_method_4_code 22 = .ok (.lastore, 1) := by decide +kernel
theorem dWo_add_23 : decode prog_12_method_4_code 23 = .ok (.iinc 2 (1), 3) := by decide +kernel
theorem dWo_add_26 : decode prog_12_method_4_code 26 = .ok (.goto (-24), 3) := by decide +kernel
theorem dWo_add_29 : decode prog_12_method_4_code 29 = .ok (.return_, 1) := by decide +kernel
theorem dLo_addCall_0 : decode prog_7_method_4_code 0 = .ok (.aload_n 0, 1) := by decide +kernel
theorem dLo_addCall_1 : decode prog_7_method_4_code 1 = .ok (.invokevirtual 30, 3) := by decide +kernel
theorem dLo_addCall_4 : decode prog_7_method_4_code 4 = .ok (.astore_n 3, 1) := by decide +kernel
theorem dLo_addCall_5 : decode prog_7_method_4_code 5 = .ok (.iload_n 2, 1) := by decide +kernel
theorem dLo_addCall_6 : decode prog_7_method_4_code 6 = .ok (.ifCond .ne (11), 3) := by decide +kernel
theorem dLo_addCall_9 : decode prog_7_method_4_code 9 = .ok (.aload_n 3, 1) := by decide +kernel
theorem dLo_addCall_10 : decode prog_7_method_4_code 10 = .ok (.aload_n 1, 1) := by decide +kernel
theorem dLo_addCall_11 : decode prog_7_method_4_code 11 = .ok (.invokevirtual 34, 3) := by decide +kernel
theorem dLo_addCall_14 : decode prog_7_method_4_code 14 = .ok (.goto (32), 3) := by decide +kernel
theorem dLo_addCall_17 : decode prog_7_method_4_code 17 = .ok (.iload_n 2, 1) := by decide +kernel
theorem dLo_addCall_18 : decode prog_7_method_4_code 18 = .ok (.iconst (2), 1) := by decide +kernel
theorem dLo_addCall_19 : decode prog_7_method_4_code 19 = .ok (.if_icmp .ne (27), 3) := by decide +kernel
theorem dLo_addCall_22 : decode prog_7_method_4_code 22 = .ok (.aload_n 0, 1) := by decide +kernel
theorem dLo_addCall_23 : decode prog_7_method_4_code 23 = .ok (.getfield 18, 3) := by decide +kernel
theorem dLo_addCall_26 : decode prog_7_method_4_code 26 = .ok (.aload_n 3, 1) := by decide +kernel
theorem dLo_addCall_27 : decode prog_7_method_4_code 27 = .ok (.invokevirtual 38, 3) := by decide +kernel
theorem dLo_addCall_30 : decode prog_7_method_4_code 30 = .ok (.aload_n 0, 1) := by decide +kernel
theorem dLo_addCall_31 : decode prog_7_method_4_code 31 = .ok (.getfield 18, 3) := by decide +kernel
theorem dLo_addCall_34 : decode prog_7_method_4_code 34 = .ok (.aload_n 1, 1) := by decide +kernel
theorem dLo_addCall_35 : decode prog_7_method_4_code 35 = .ok (.invokevirtual 34, 3) := by decide +kernel
theorem dLo_addCall_38 : decode prog_7_method_4_code 38 = .ok (.aload_n 3, 1) := by decide +kernel
theorem dLo_addCall_39 : decode prog_7_method_4_code 39 = .ok (.aload_n 0, 1) := by decide +kernel
theorem dLo_addCall_40 : decode prog_7_method_4_code 40 = .ok (.getfield 18, 3) := by decide +kernel
theorem dLo_addCall_43 : decode prog_7_method_4_code 43 = .ok (.invokevirtual 42, 3) := by decide +kernel
theorem dLo_addCall_46 : decode prog_7_method_4_code 46 = .ok (.return_, 1) := by decide +kernel
theorem dC_call_0 : decode prog_1_method_33_code 0 = .ok (.aload_n 0, 1) := by decide +kernel
theorem dC_call_1 : decode prog_1_method_33_code 1 = .ok (.getfield 46, 3) := by decide +kernel
theorem dC_call_4 : decode prog_1_method_33_code 4 = .ok (.iload_n 1, 1) := by decide +kernel
theorem dC_call_5 : decode prog_1_method_33_code 5 = .ok (.invokevirtual 167, 3) := by decide +kernel
theorem dC_call_8 : decode prog_1_method_33_code 8 = .ok (.astore_n 3, 1) := by decide +kernel
theorem dC_call_9 : decode prog_1_method_33_code 9 = .ok (.aload_n 3, 1) := by decide +kernel
theorem dC_call_10 : decode prog_1_method_33_code 10 = .ok (.ifnonnull (6), 3) := by decide +kernel
theorem dC_call_13 : decode prog_1_method_33_code 13 = .ok (.bipush (-101), 2) := by decide +kernel
theorem dC_call_15 : decode prog_1_method_33_code 15 = .ok (.ireturn, 1) := by decide +kernel
theorem dC_call_16 : decode prog_1_method_33_code 16 = .ok (.iload_n 2, 1) := by decide +kernel
theorem dC_call_17 : decode prog_1_method_33_code 17 = .ok (.ifCond .lt (8), 3) := by decide +kernel
theorem dC_call_20 : decode prog_1_method_33_code 20 = .ok (.iload_n 2, 1) := by decide +kernel
theorem dC_call_21 : decode prog_1_method_33_code 21 = .ok (.iconst (2), 1) := by decide +kernel
theorem dC_call_22 : decode prog_1_method_33_code 22 = .ok (.if_icmp .le (6), 3) := by decide +kernel
theorem dC_call_25 : decode prog_1_method_33_code 25 = .ok (.bipush (-102), 2) := by decide +kernel
theorem dC_call_27 : decode prog_1_method_33_code 27 = .ok (.ireturn, 1) := by decide +kernel
theorem dC_call_28 : decode prog_1_method_33_code 28 = .ok (.aload_n 0, 1) := by decide +kernel
theorem dC_call_29 : decode prog_1_method_33_code 29 = .ok (.getfield 53, 3) := by decide +kernel
theorem dC_call_32 : decode prog_1_method_33_code 32 = .ok (.getfield 252, 3) := by decide +kernel
theorem dC_call_35 : decode prog_1_method_33_code 35 = .ok (.bipush (30), 2) := by decide +kernel
theorem dC_call_37 : decode prog_1_method_33_code 37 = .ok (.if_icmp .lt (6), 3) := by decide +kernel
theorem dC_call_40 : decode prog_1_method_33_code 40 = .ok (.bipush (-104), 2) := by decide +kernel
theorem dC_call_42 : decode prog_1_method_33_code 42 = .ok (.ireturn, 1) := by decide +kernel
theorem dC_call_43 : decode prog_1_method_33_code 43 = .ok (.aload_n 0, 1) := by decide +kernel
theorem dC_call_44 : decode prog_1_method_33_code 44 = .ok (.getfield 53, 3) := by decide +kernel
theorem dC_call_47 : decode prog_1_method_33_code 47 = .ok (.aload_n 3, 1) := by decide +kernel
theorem dC_call_48 : decode prog_1_method_33_code 48 = .ok (.iload_n 2, 1) := by decide +kernel
theorem dC_call_49 : decode prog_1_method_33_code 49 = .ok (.invokevirtual 255, 3) := by decide +kernel
theorem dC_call_52 : decode prog_1_method_33_code 52 = .ok (.aload_n 0, 1) := by decide +kernel
theorem dC_call_53 : decode prog_1_method_33_code 53 = .ok (.getfield 53, 3) := by decide +kernel
theorem dC_call_56 : decode prog_1_method_33_code 56 = .ok (.getfield 252, 3) := by decide +kernel
theorem dC_call_59 : decode prog_1_method_33_code 59 = .ok (.ireturn, 1) := by decide +kernel
theorem dM_add_0 : decode prog_14_method_85_code 0 = .ok (.aload_n 0, 1) := by decide +kernel
theorem dM_add_1 : decode prog_14_method_85_code 1 = .ok (.getfield 370, 3) := by decide +kernel
theorem dM_add_4 : decode prog_14_method_85_code 4 = .ok (.bipush (30), 2) := by decide +kernel
theorem dM_add_6 : decode prog_14_method_85_code 6 = .ok (.if_icmp .ne (6), 3) := by decide +kernel
theorem dM_add_9 : decode prog_14_method_85_code 9 = .ok (.bipush (-104), 2) := by decide +kernel
theorem dM_add_11 : decode prog_14_method_85_code 11 = .ok (.ireturn, 1) := by decide +kernel
theorem dM_add_12 : decode prog_14_method_85_code 12 = .ok (.aload_n 0, 1) := by decide +kernel
theorem dM_add_13 : decode prog_14_method_85_code 13 = .ok (.getfield 42, 3) := by decide +kernel
theorem dM_add_16 : decode prog_14_method_85_code 16 = .ok (.aload_n 0, 1) := by decide +kernel
theorem dM_add_17 : decode prog_14_method_85_code 17 = .ok (.getfield 370, 3) := by decide +kernel
theorem dM_add_20 : decode prog_14_method_85_code 20 = .ok (.iload_n 1, 1) := by decide +kernel
theorem dM_add_21 : decode prog_14_method_85_code 21 = .ok (.iastore, 1) := by decide +kernel
theorem dM_add_22 : decode prog_14_method_85_code 22 = .ok (.aload_n 0, 1) := by decide +kernel
theorem dM_add_23 : decode prog_14_method_85_code 23 = .ok (.getfield 45, 3) := by decide +kernel
theorem dM_add_26 : decode prog_14_method_85_code 26 = .ok (.aload_n 0, 1) := by decide +kernel
theorem dM_add_27 : decode prog_14_method_85_code 27 = .ok (.getfield 370, 3) := by decide +kernel
theorem dM_add_30 : decode prog_14_method_85_code 30 = .ok (.iload_n 2, 1) := by decide +kernel
theorem dM_add_31 : decode prog_14_method_85_code 31 = .ok (.iastore, 1) := by decide +kernel
theorem dM_add_32 : decode prog_14_method_85_code 32 = .ok (.aload_n 0, 1) := by decide +kernel
theorem dM_add_33 : decode prog_14_method_85_code 33 = .ok (.dup, 1) := by decide +kernel
theorem dM_add_34 : decode prog_14_method_85_code 34 = .ok (.getfield 370, 3) := by decide +kernel
theorem dM_add_37 : decode prog_14_method_85_code 37 = .ok (.iconst (1), 1) := by decide +kernel
theorem dM_add_38 : decode prog_14_method_85_code 38 = .ok (.iadd, 1) := by decide +kernel
theorem dM_add_39 : decode prog_14_method_85_code 39 = .ok (.putfield 370, 3) := by decide +kernel
theorem dM_add_42 : decode prog_14_method_85_code 42 = .ok (.aload_n 0, 1) := by decide +kernel
theorem dM_add_43 : decode prog_14_method_85_code 43 = .ok (.getfield 370, 3) := by decide +kernel
theorem dM_add_46 : decode prog_14_method_85_code 46 = .ok (.ireturn, 1) := by decide +kernel
theorem dM_call_0 : decode prog_14_method_86_code 0 = .ok (.aload_n 0, 1) := by decide +kernel
theorem dM_call_1 : decode prog_14_method_86_code 1 = .ok (.iload_n 1, 1) := by decide +kernel
theorem dM_call_2 : decode prog_14_method_86_code 2 = .ok (.invokevirtual 309, 3) := by decide +kernel
theorem dM_call_5 : decode prog_14_method_86_code 5 = .ok (.ifCond .ne (6), 3) := by decide +kernel
theorem dM_call_8 : decode prog_14_method_86_code 8 = .ok (.bipush (-101), 2) := by decide +kernel
theorem dM_call_10 : decode prog_14_method_86_code 10 = .ok (.ireturn, 1) := by decide +kernel
theorem dM_call_11 : decode prog_14_method_86_code 11 = .ok (.iload_n 2, 1) := by decide +kernel
theorem dM_call_12 : decode prog_14_method_86_code 12 = .ok (.iconst (0), 1) := by decide +kernel
theorem dM_call_13 : decode prog_14_method_86_code 13 = .ok (.iconst (2), 1) := by decide +kernel
theorem dM_call_14 : decode prog_14_method_86_code 14 = .ok (.invokestatic 148, 3) := by decide +kernel
theorem dM_call_17 : decode prog_14_method_86_code 17 = .ok (.ifCond .eq (12), 3) := by decide +kernel
theorem dM_call_20 : decode prog_14_method_86_code 20 = .ok (.aload_n 0, 1) := by decide +kernel
theorem dM_call_21 : decode prog_14_method_86_code 21 = .ok (.iload_n 2, 1) := by decide +kernel
theorem dM_call_22 : decode prog_14_method_86_code 22 = .ok (.iload_n 1, 1) := by decide +kernel
theorem dM_call_23 : decode prog_14_method_86_code 23 = .ok (.invokevirtual 373, 3) := by decide +kernel
theorem dM_call_26 : decode prog_14_method_86_code 26 = .ok (.goto (5), 3) := by decide +kernel
theorem dM_call_29 : decode prog_14_method_86_code 29 = .ok (.bipush (-102), 2) := by decide +kernel
theorem dM_call_31 : decode prog_14_method_86_code 31 = .ok (.ireturn, 1) := by decide +kernel
theorem dLo_addSight_0 : decode prog_7_method_5_code 0 = .ok (.aload_n 0, 1) := by decide +kernel
theorem dLo_addSight_1 : decode prog_7_method_5_code 1 = .ok (.invokevirtual 30, 3) := by decide +kernel
theorem dLo_addSight_4 : decode prog_7_method_5_code 4 = .ok (.iload_n 1, 1) := by decide +kernel
theorem dLo_addSight_5 : decode prog_7_method_5_code 5 = .ok (.iload_n 2, 1) := by decide +kernel
theorem dLo_addSight_6 : decode prog_7_method_5_code 6 = .ok (.invokevirtual 45, 3) := by decide +kernel
theorem dLo_addSight_9 : decode prog_7_method_5_code 9 = .ok (.return_, 1) := by decide +kernel
theorem dC_see_0 : decode prog_1_method_34_code 0 = .ok (.iload_n 1, 1) := by decide +kernel
theorem dC_see_1 : decode prog_1_method_34_code 1 = .ok (.invokestatic 181, 3) := by decide +kernel
theorem dC_see_4 : decode prog_1_method_34_code 4 = .ok (.ifCond .ne (6), 3) := by decide +kernel
theorem dC_see_7 : decode prog_1_method_34_code 7 = .ok (.bipush (-101), 2) := by decide +kernel
theorem dC_see_9 : decode prog_1_method_34_code 9 = .ok (.ireturn, 1) := by decide +kernel
theorem dC_see_10 : decode prog_1_method_34_code 10 = .ok (.aload_n 0, 1) := by decide +kernel
theorem dC_see_11 : decode prog_1_method_34_code 11 = .ok (.getfield 53, 3) := by decide +kernel
theorem dC_see_14 : decode prog_1_method_34_code 14 = .ok (.getfield 252, 3) := by decide +kernel
theorem dC_see_17 : decode prog_1_method_34_code 17 = .ok (.bipush (30), 2) := by decide +kernel
theorem dC_see_19 : decode prog_1_method_34_code 19 = .ok (.if_icmp .lt (6), 3) := by decide +kernel
theorem dC_see_22 : decode prog_1_method_34_code 22 = .ok (.bipush (-104), 2) := by decide +kernel
theorem dC_see_24 : decode prog_1_method_34_code 24 = .ok (.ireturn, 1) := by decide +kernel
theorem dC_see_25 : decode prog_1_method_34_code 25 = .ok (.aload_n 0, 1) := by decide +kernel
theorem dC_see_26 : decode prog_1_method_34_code 26 = .ok (.getfield 53, 3) := by decide +kernel
theorem dC_see_29 : decode prog_1_method_34_code 29 = .ok (.iload_n 1, 1) := by decide +kernel
theorem dC_see_30 : decode prog_1_method_34_code 30 = .ok (.iload_n 2, 1) := by decide +kernel
theorem dC_see_31 : decode prog_1_method_34_code 31 = .ok (.invokevirtual 259, 3) := by decide +kernel
theorem dC_see_34 : decode prog_1_method_34_code 34 = .ok (.aload_n 0, 1) := by decide +kernel
theorem dC_see_35 : decode prog_1_method_34_code 35 = .ok (.getfield 53, 3) := by decide +kernel
theorem dC_see_38 : decode prog_1_method_34_code 38 = .ok (.getfield 252, 3) := by decide +kernel
theorem dC_see_41 : decode prog_1_method_34_code 41 = .ok (.ireturn, 1) := by decide +kernel
theorem dM_see_0 : decode prog_14_method_87_code 0 = .ok (.iload_n 1, 1) := by decide +kernel
theorem dM_see_1 : decode prog_14_method_87_code 1 = .ok (.iconst (0), 1) := by decide +kernel
theorem dM_see_2 : decode prog_14_method_87_code 2 = .ok (.bipush (11), 2) := by decide +kernel
theorem dM_see_4 : decode prog_14_method_87_code 4 = .ok (.invokestatic 148, 3) := by decide +kernel
theorem dM_see_7 : decode prog_14_method_87_code 7 = .ok (.ifCond .eq (20), 3) := by decide +kernel
theorem dM_see_10 : decode prog_14_method_87_code 10 = .ok (.aload_n 0, 1) := by decide +kernel
theorem dM_see_11 : decode prog_14_method_87_code 11 = .ok (.iload_n 2, 1) := by decide +kernel
theorem dM_see_12 : decode prog_14_method_87_code 12 = .ok (.ifCond .eq (7), 3) := by decide +kernel
theorem dM_see_15 : decode prog_14_method_87_code 15 = .ok (.iconst (3), 1) := by decide +kernel
theorem dM_see_16 : decode prog_14_method_87_code 16 = .ok (.goto (4), 3) := by decide +kernel
theorem dM_see_19 : decode prog_14_method_87_code 19 = .ok (.iconst (4), 1) := by decide +kernel
theorem dM_see_20 : decode prog_14_method_87_code 20 = .ok (.iload_n 1, 1) := by decide +kernel
theorem dM_see_21 : decode prog_14_method_87_code 21 = .ok (.invokevirtual 373, 3) := by decide +kernel
theorem dM_see_24 : decode prog_14_method_87_code 24 = .ok (.goto (5), 3) := by decide +kernel
theorem dM_see_27 : decode prog_14_method_87_code 27 = .ok (.bipush (-101), 2) := by decide +kernel
theorem dM_see_29 : decode prog_14_method_87_code 29 = .ok (.ireturn, 1) := by decide +kernel
theorem dC_strike_0 : decode prog_1_method_35_code 0 = .ok (.aload_n 0, 1) := by decide +kernel
theorem dC_strike_1 : decode prog_1_method_35_code 1 = .ok (.getfield 53, 3) := by decide +kernel
theorem dC_strike_4 : decode prog_1_method_35_code 4 = .ok (.getfield 252, 3) := by decide +kernel
theorem dC_strike_7 : decode prog_1_method_35_code 7 = .ok (.ifCond .ne (6), 3) := by decide +kernel
theorem dC_strike_10 : decode prog_1_method_35_code 10 = .ok (.bipush (-103), 2) := by decide +kernel
theorem dC_strike_12 : decode prog_1_method_35_code 12 = .ok (.ireturn, 1) := by decide +kernel
theorem dC_strike_13 : decode prog_1_method_35_code 13 = .ok (.aload_n 0, 1) := by decide +kernel
theorem dC_strike_14 : decode prog_1_method_35_code 14 = .ok (.getfield 53, 3) := by decide +kernel
theorem dC_strike_17 : decode prog_1_method_35_code 17 = .ok (.dup, 1) := by decide +kernel
theorem dC_strike_18 : decode prog_1_method_35_code 18 = .ok (.getfield 252, 3) := by decide +kernel
theorem dC_strike_21 : decode prog_1_method_35_code 21 = .ok (.iconst (1), 1) := by decide +kernel
theorem dC_strike_22 : decode prog_1_method_35_code 22 = .ok (.isub, 1) := by decide +kernel
theorem dC_strike_23 : decode prog_1_method_35_code 23 = .ok (.putfield 252, 3) := by decide +kernel
theorem dC_strike_26 : decode prog_1_method_35_code 26 = .ok (.aload_n 0, 1) := by decide +kernel
theorem dC_strike_27 : decode prog_1_method_35_code 27 = .ok (.getfield 53, 3) := by decide +kernel
theorem dC_strike_30 : decode prog_1_method_35_code 30 = .ok (.getfield 252, 3) := by decide +kernel
theorem dC_strike_33 : decode prog_1_method_35_code 33 = .ok (.ireturn, 1) := by decide +kernel
theorem dM_strike_0 : decode prog_14_method_88_code 0 = .ok (.aload_n 0, 1) := by decide +kernel
theorem dM_strike_1 : decode prog_14_method_88_code 1 = .ok (.getfield 370, 3) := by decide +kernel
theorem dM_strike_4 : decode prog_14_method_88_code 4 = .ok (.ifCond .ne (6), 3) := by decide +kernel
theorem dM_strike_7 : decode prog_14_method_88_code 7 = .ok (.bipush (-103), 2) := by decide +kernel
theorem dM_strike_9 : decode prog_14_method_88_code 9 = .ok (.ireturn, 1) := by decide +kernel
theorem dM_strike_10 : decode prog_14_method_88_code 10 = .ok (.aload_n 0, 1) := by decide +kernel
theorem dM_strike_11 : decode prog_14_method_88_code 11 = .ok (.dup, 1) := by decide +kernel
theorem dM_strike_12 : decode prog_14_method_88_code 12 = .ok (.getfield 370, 3) := by decide +kernel
theorem dM_strike_15 : decode prog_14_method_88_code 15 = .ok (.iconst (1), 1) := by decide +kernel
theorem dM_strike_16 : decode prog_14_method_88_code 16 = .ok (.isub, 1) := by decide +kernel
theorem dM_strike_17 : decode prog_14_method_88_code 17 = .ok (.putfield 370, 3) := by decide +kernel
theorem dM_strike_20 : decode prog_14_method_88_code 20 = .ok (.aload_n 0, 1) := by decide +kernel
theorem dM_strike_21 : decode prog_14_method_88_code 21 = .ok (.getfield 370, 3) := by decide +kernel
theorem dM_strike_24 : decode prog_14_method_88_code 24 = .ok (.ireturn, 1) := by decide +kernel
theorem djL_bitCount_0 : decode prog_16_method_50_code 0 = .ok (.lload_n 0, 1) := by decide +kernel
theorem djL_bitCount_1 : decode prog_16_method_50_code 1 = .ok (.lload_n 0, 1) := by decide +kernel
theorem djL_bitCount_2 : decode prog_16_method_50_code 2 = .ok (.iconst (1), 1) := by decide +kernel
theorem djL_bitCount_3 : decode prog_16_method_50_code 3 = .ok (.lushr, 1) := by decide +kernel
theorem djL_bitCount_4 : decode prog_16_method_50_code 4 = .ok (.ldc2_w 314, 3) := by decide +kernel
theorem djL_bitCount_7 : decode prog_16_method_50_code 7 = .ok (.land, 1) := by decide +kernel
theorem djL_bitCount_8 : decode prog_16_method_50_code 8 = .ok (.lsub, 1) := by decide +kernel
theorem djL_bitCount_9 : decode prog_16_method_50_code 9 = .ok (.lstore_n 0, 1) := by decide +kernel
theorem djL_bitCount_10 : decode prog_16_method_50_code 10 = .ok (.lload_n 0, 1) := by decide +kernel
theorem djL_bitCount_11 : decode prog_16_method_50_code 11 = .ok (.ldc2_w 316, 3) := by decide +kernel
theorem djL_bitCount_14 : decode prog_16_method_50_code 14 = .ok (.land, 1) := by decide +kernel
theorem djL_bitCount_15 : decode prog_16_method_50_code 15 = .ok (.lload_n 0, 1) := by decide +kernel
theorem djL_bitCount_16 : decode prog_16_method_50_code 16 = .ok (.iconst (2), 1) := by decide +kernel
theorem djL_bitCount_17 : decode prog_16_method_50_code 17 = .ok (.lushr, 1) := by decide +kernel
theorem djL_bitCount_18 : decode prog_16_method_50_code 18 = .ok (.ldc2_w 316, 3) := by decide +kernel
theorem djL_bitCount_21 : decode prog_16_method_50_code 21 = .ok (.land, 1) := by decide +kernel
theorem djL_bitCount_22 : decode prog_16_method_50_code 22 = .ok (.ladd, 1) := by decide +kernel
theorem djL_bitCount_23 : decode prog_16_method_50_code 23 = .ok (.lstore_n 0, 1) := by decide +kernel
theorem djL_bitCount_24 : decode prog_16_method_50_code 24 = .ok (.lload_n 0, 1) := by decide +kernel
theorem djL_bitCount_25 : decode prog_16_method_50_code 25 = .ok (.lload_n 0, 1) := by decide +kernel
theorem djL_bitCount_26 : decode prog_16_method_50_code 26 = .ok (.iconst (4), 1) := by decide +kernel
theorem djL_bitCount_27 : decode prog_16_method_50_code 27 = .ok (.lushr, 1) := by decide +kernel
theorem djL_bitCount_28 : decode prog_16_method_50_code 28 = .ok (.ladd, 1) := by decide +kernel
theorem djL_bitCount_29 : decode prog_16_method_50_code 29 = .ok (.ldc2_w 318, 3) := by decide +kernel
theorem djL_bitCount_32 : decode prog_16_method_50_code 32 = .ok (.land, 1) := by decide +kernel
theorem djL_bitCount_33 : decode prog_16_method_50_code 33 = .ok (.lstore_n 0, 1) := by decide +kernel
theorem djL_bitCount_34 : decode prog_16_method_50_code 34 = .ok (.lload_n 0, 1) := by decide +kernel
theorem djL_bitCount_35 : decode prog_16_method_50_code 35 = .ok (.lload_n 0, 1) := by decide +kernel
theorem djL_bitCount_36 : decode prog_16_method_50_code 36 = .ok (.bipush (8), 2) := by decide +kernel
theorem djL_bitCount_38 : decode prog_16_method_50_code 38 = .ok (.lushr, 1) := by decide +kernel
theorem djL_bitCount_39 : decode prog_16_method_50_code 39 = .ok (.ladd, 1) := by decide +kernel
theorem djL_bitCount_40 : decode prog_16_method_50_code 40 = .ok (.lstore_n 0, 1) := by decide +kernel
theorem djL_bitCount_41 : decode prog_16_method_50_code 41 = .ok (.lload_n 0, 1) := by decide +kernel
theorem djL_bitCount_42 : decode prog_16_method_50_code 42 = .ok (.lload_n 0, 1) := by decide +kernel
theorem djL_bitCount_43 : decode prog_16_method_50_code 43 = .ok (.bipush (16), 2) := by decide +kernel
theorem djL_bitCount_45 : decode prog_16_method_50_code 45 = .ok (.lushr, 1) := by decide +kernel
theorem djL_bitCount_46 : decode prog_16_method_50_code 46 = .ok (.ladd, 1) := by decide +kernel
theorem djL_bitCount_47 : decode prog_16_method_50_code 47 = .ok (.lstore_n 0, 1) := by decide +kernel
theorem djL_bitCount_48 : decode prog_16_method_50_code 48 = .ok (.lload_n 0, 1) := by decide +kernel
theorem djL_bitCount_49 : decode prog_16_method_50_code 49 = .ok (.lload_n 0, 1) := by decide +kernel
theorem djL_bitCount_50 : decode prog_16_method_50_code 50 = .ok (.bipush (32), 2) := by decide +kernel
theorem djL_bitCount_52 : decode prog_16_method_50_code 52 = .ok (.lushr, 1) := by decide +kernel
theorem djL_bitCount_53 : decode prog_16_method_50_code 53 = .ok (.ladd, 1) := by decide +kernel
theorem djL_bitCount_54 : decode prog_16_method_50_code 54 = .ok (.lstore_n 0, 1) := by decide +kernel
theorem djL_bitCount_55 : decode prog_16_method_50_code 55 = .ok (.lload_n 0, 1) := by decide +kernel
theorem djL_bitCount_56 : decode prog_16_method_50_code 56 = .ok (.l2i, 1) := by decide +kernel
theorem djL_bitCount_57 : decode prog_16_method_50_code 57 = .ok (.bipush (127), 2) := by decide +kernel
theorem djL_bitCount_59 : decode prog_16_method_50_code 59 = .ok (.iand, 1) := by decide +kernel
theorem djL_bitCount_60 : decode prog_16_method_50_code 60 = .ok (.ireturn, 1) := by decide +kernel
theorem dWo_size_0 : decode prog_12_method_10_code 0 = .ok (.iconst (0), 1) := by decide +kernel
theorem dWo_size_1 : decode prog_12_method_10_code 1 = .ok (.istore_n 1, 1) := by decide +kernel
theorem dWo_size_2 : decode prog_12_method_10_code 2 = .ok (.iconst (0), 1) := by decide +kernel
theorem dWo_size_3 : decode prog_12_method_10_code 3 = .ok (.istore_n 2, 1) := by decide +kernel
theorem dWo_size_4 : decode prog_12_method_10_code 4 = .ok (.iload_n 2, 1) := by decide +kernel
theorem dWo_size_5 : decode prog_12_method_10_code 5 = .ok (.bipush (64), 2) := by decide +kernel
theorem dWo_size_7 : decode prog_12_method_10_code 7 = .ok (.if_icmp .ge (21), 3) := by decide +kernel
theorem dWo_size_10 : decode prog_12_method_10_code 10 = .ok (.iload_n 1, 1) := by decide +kernel
theorem dWo_size_11 : decode prog_12_method_10_code 11 = .ok (.aload_n 0, 1) := by decide +kernel
theorem dWo_size_12 : decode prog_12_method_10_code 12 = .ok (.getfield 9, 3) := by decide +kernel
theorem dWo_size_15 : decode prog_12_method_10_code 15 = .ok (.iload_n 2, 1) := by decide +kernel
theorem dWo_size_16 : decode prog_12_method_10_code 16 = .ok (.laload, 1) := by decide +kernel
theorem dWo_size_17 : decode prog_12_method_10_code 17 = .ok (.invokestatic 57, 3) := by decide +kernel
theorem dWo_size_20 : decode prog_12_method_10_code 20 = .ok (.iadd, 1) := by decide +kernel
theorem dWo_size_21 : decode prog_12_method_10_code 21 = .ok (.istore_n 1, 1) := by decide +kernel
theorem dWo_size_22 : decode prog_12_method_10_code 22 = .ok (.iinc 2 (1), 3) := by decide +kernel
theorem dWo_size_25 : decode prog_12_method_10_code 25 = .ok (.goto (-21), 3) := by decide +kernel
theorem dWo_size_28 : decode prog_12_method_10_code 28 = .ok (.iload_n 1, 1) := by decide +kernel
theorem dWo_size_29 : decode prog_12_method_10_code 29 = .ok (.ireturn, 1) := by decide +kernel
theorem dC_worlds_0 : decode prog_1_method_36_code 0 = .ok (.iload_n 1, 1) := by decide +kernel
theorem dC_worlds_1 : decode prog_1_method_36_code 1 = .ok (.ifCond .lt (14), 3) := by decide +kernel
theorem dC_worlds_4 : decode prog_1_method_36_code 4 = .ok (.iload_n 1, 1) := by decide +kernel
theorem dC_worlds_5 : decode prog_1_method_36_code 5 = .ok (.aload_n 0, 1) := by decide +kernel
theorem dC_worlds_6 : decode prog_1_method_36_code 6 = .ok (.getfield 53, 3) := by decide +kernel
theorem dC_worlds_9 : decode prog_1_method_36_code 9 = .ok (.getfield 252, 3) := by decide +kernel
theorem dC_worlds_12 : decode prog_1_method_36_code 12 = .ok (.if_icmp .le (8), 3) := by decide +kernel
theorem dC_worlds_15 : decode prog_1_method_36_code 15 = .ok (.bipush (-101), 2) := by decide +kernel
theorem dC_worlds_17 : decode prog_1_method_36_code 17 = .ok (.goto (15), 3) := by decide +kernel
theorem dC_worlds_20 : decode prog_1_method_36_code 20 = .ok (.aload_n 0, 1) := by decide +kernel
theorem dC_worlds_21 : decode prog_1_method_36_code 21 = .ok (.getfield 53, 3) := by decide +kernel
theorem dC_worlds_24 : decode prog_1_method_36_code 24 = .ok (.getfield 263, 3) := by decide +kernel
theorem dC_worlds_27 : decode prog_1_method_36_code 27 = .ok (.iload_n 1, 1) := by decide +kernel
theorem dC_worlds_28 : decode prog_1_method_36_code 28 = .ok (.aaload, 1) := by decide +kernel
theorem dC_worlds_29 : decode prog_1_method_36_code 29 = .ok (.invokevirtual 266, 3) := by decide +kernel
theorem dC_worlds_32 : decode prog_1_method_36_code 32 = .ok (.ireturn, 1) := by decide +kernel
theorem dM_did_0 : decode prog_14_method_89_code 0 = .ok (.iload_n 1, 1) := by decide +kernel
theorem dM_did_1 : decode prog_14_method_89_code 1 = .ok (.aload_n 0, 1) := by decide +kernel
theorem dM_did_2 : decode prog_14_method_89_code 2 = .ok (.getfield 30, 3) := by decide +kernel
theorem dM_did_5 : decode prog_14_method_89_code 5 = .ok (.iload_n 2, 1) := by decide +kernel
theorem dM_did_6 : decode prog_14_method_89_code 6 = .ok (.iaload, 1) := by decide +kernel
theorem dM_did_7 : decode prog_14_method_89_code 7 = .ok (.iconst (-1), 1) := by decide +kernel
theorem dM_did_8 : decode prog_14_method_89_code 8 = .ok (.ixor, 1) := by decide +kernel
theorem dM_did_9 : decode prog_14_method_89_code 9 = .ok (.iand, 1) := by decide +kernel
theorem dM_did_10 : decode prog_14_method_89_code 10 = .ok (.aload_n 0, 1) := by decide +kernel
theorem dM_did_11 : decode prog_14_method_89_code 11 = .ok (.getfield 27, 3) := by decide +kernel
theorem dM_did_14 : decode prog_14_method_89_code 14 = .ok (.iload_n 2, 1) := by decide +kernel
theorem dM_did_15 : decode prog_14_method_89_code 15 = .ok (.iaload, 1) := by decide +kernel
theorem dM_did_16 : decode prog_14_method_89_code 16 = .ok (.ior, 1) := by decide +kernel
theorem dM_did_17 : decode prog_14_method_89_code 17 = .ok (.ireturn, 1) := by decide +kernel
theorem dM_pass_0 : decode prog_14_method_90_code 0 = .ok (.aload_n 0, 1) := by decide +kernel
theorem dM_pass_1 : decode prog_14_method_90_code 1 = .ok (.getfield 42, 3) := by decide +kernel
theorem dM_pass_4 : decode prog_14_method_90_code 4 = .ok (.iload_n 1, 1) := by decide +kernel
theorem dM_pass_5 : decode prog_14_method_90_code 5 = .ok (.iaload, 1) := by decide +kernel
theorem dM_pass_6 : decode prog_14_method_90_code 6 = .ok (.istore_n 2, 1) := by decide +kernel
theorem dM_pass_7 : decode prog_14_method_90_code 7 = .ok (.aload_n 0, 1) := by decide +kernel
theorem dM_pass_8 : decode prog_14_method_90_code 8 = .ok (.getfield 45, 3) := by decide +kernel
theorem dM_pass_11 : decode prog_14_method_90_code 11 = .ok (.iload_n 1, 1) := by decide +kernel
theorem dM_pass_12 : decode prog_14_method_90_code 12 = .ok (.iaload, 1) := by decide +kernel
theorem dM_pass_13 : decode prog_14_method_90_code 13 = .ok (.istore_n 3, 1) := by decide +kernel
theorem dM_pass_14 : decode prog_14_method_90_code 14 = .ok (.iconst (0), 1) := by decide +kernel
theorem dM_pass_15 : decode prog_14_method_90_code 15 = .ok (.istore 4, 2) := by decide +kernel
theorem dM_pass_17 : decode prog_14_method_90_code 17 = .ok (.iload 4, 2) := by decide +kernel
theorem dM_pass_19 : decode prog_14_method_90_code 19 = .ok (.sipush (4096), 3) := by decide +kernel
theorem dM_pass_22 : decode prog_14_method_90_code 22 = .ok (.if_icmp .ge (17), 3) := by decide +kernel
theorem dM_pass_25 : decode prog_14_method_90_code 25 = .ok (.aload_n 0, 1) := by decide +kernel
theorem dM_pass_26 : decode prog_14_method_90_code 26 = .ok (.getfield 115, 3) := by decide +kernel
theorem dM_pass_29 : decode prog_14_method_90_code 29 = .ok (.iload 4, 2) := by decide +kernel
theorem dM_pass_31 : decode prog_14_method_90_code 31 = .ok (.iconst (0), 1) := by decide +kernel
theorem dM_pass_32 : decode prog_14_method_90_code 32 = .ok (.bastore, 1) := by decide +kernel
theorem dM_pass_33 : decode prog_14_method_90_code 33 = .ok (.iinc 4 (1), 3) := by decide +kernel
theorem dM_pass_36 : decode prog_14_method_90_code 36 = .ok (.goto (-19), 3) := by decide +kernel
theorem dM_pass_39 : decode prog_14_method_90_code 39 = .ok (.iconst (0), 1) := by decide +kernel
theorem dM_pass_40 : decode prog_14_method_90_code 40 = .ok (.istore 4, 2) := by decide +kernel
theorem dM_pass_42 : decode prog_14_method_90_code 42 = .ok (.iload 4, 2) := by decide +kernel
theorem dM_pass_44 : decode prog_14_method_90_code 44 = .ok (.sipush (4096), 3) := by decide +kernel
theorem dM_pass_47 : decode prog_14_method_90_code 47 = .ok (.if_icmp .ge (141), 3) := by decide +kernel
theorem dM_pass_50 : decode prog_14_method_90_code 50 = .ok (.aload_n 0, 1) := by decide +kernel
theorem dM_pass_51 : decode prog_14_method_90_code 51 = .ok (.getfield 112, 3) := by decide +kernel
theorem dM_pass_54 : decode prog_14_method_90_code 54 = .ok (.iload 4, 2) := by decide +kernel
theorem dM_pass_56 : decode prog_14_method_90_code 56 = .ok (.baload, 1) := by decide +kernel
theorem dM_pass_57 : decode prog_14_method_90_code 57 = .ok (.ifCond .eq (125), 3) := by decide +kernel
theorem dM_pass_60 : decode prog_14_method_90_code 60 = .ok (.iload_n 2, 1) := by decide +kernel
theorem dM_pass_61 : decode prog_14_method_90_code 61 = .ok (.iconst (3), 1) := by decide +kernel
theorem dM_pass_62 : decode prog_14_method_90_code 62 = .ok (.if_icmp .ge (21), 3) := by decide +kernel
theorem dM_pass_65 : decode prog_14_method_90_code 65 = .ok (.aload_n 0, 1) := by decide +kernel
theorem dM_pass_66 : decode prog_14_method_90_code 66 = .ok (.getfield 24, 3) := by decide +kernel
theorem dM_pass_69 : decode prog_14_method_90_code 69 = .ok (.iload_n 3, 1) := by decide +kernel
theorem dM_pass_70 : decode prog_14_method_90_code 70 = .ok (.iaload, 1) := by decide +kernel
theorem dM_pass_71 : decode prog_14_method_90_code 71 = .ok (.iload 4, 2) := by decide +kernel
theorem dM_pass_73 : decode prog_14_method_90_code 73 = .ok (.iconst (-1), 1) := by decide +kernel
theorem dM_pass_74 : decode prog_14_method_90_code 74 = .ok (.ixor, 1) := by decide +kernel
theorem dM_pass_75 : decode prog_14_method_90_code 75 = .ok (.iand, 1) := by decide +kernel
theorem dM_pass_76 : decode prog_14_method_90_code 76 = .ok (.ifCond .ne (7), 3) := by decide +kernel
theorem dM_pass_79 : decode prog_14_method_90_code 79 = .ok (.iconst (1), 1) := by decide +kernel
theorem dM_pass_80 : decode prog_14_method_90_code 80 = .ok (.goto (4), 3) := by decide +kernel
theorem dM_pass_83 : decode prog_14_method_90_code 83 = .ok (.iconst (0), 1) := by decide +kernel
theorem dM_pass_84 : decode prog_14_method_90_code 84 = .ok (.istore 5, 2) := by decide +kernel
theorem dM_pass_86 : decode prog_14_method_90_code 86 = .ok (.iload_n 2, 1) := by decide +kernel
theorem dM_pass_87 : decode prog_14_method_90_code 87 = .ok (.iconst (1), 1) := by decide +kernel
theorem dM_pass_88 : decode prog_14_method_90_code 88 = .ok (.if_icmp .eq (37), 3) := by decide +kernel
theorem dM_pass_91 : decode prog_14_method_90_code 91 = .ok (.iload_n 2, 1) := by decide +kernel
theorem dM_pass_92 : decode prog_14_method_90_code 92 = .ok (.iconst (2), 1) := by decide +kernel
theorem dM_pass_93 : decode prog_14_method_90_code 93 = .ok (.if_icmp .eq (32), 3) := by decide +kernel
theorem dM_pass_96 : decode prog_14_method_90_code 96 = .ok (.iload_n 2, 1) := by decide +kernel
theorem dM_pass_97 : decode prog_14_method_90_code 97 = .ok (.iconst (3), 1) := by decide +kernel
theorem dM_pass_98 : decode prog_14_method_90_code 98 = .ok (.if_icmp .ne (13), 3) := by decide +kernel
theorem dM_pass_101 : decode prog_14_method_90_code 101 = .ok (.iload 4, 2) := by decide +kernel
theorem dM_pass_103 : decode prog_14_method_90_code 103 = .ok (.iload_n 3, 1) := by decide +kernel
theorem dM_pass_104 : decode prog_14_method_90_code 104 = .ok (.ishr, 1) := by decide +kernel
theorem dM_pass_105 : decode prog_14_method_90_code 105 = .ok (.iconst (1), 1) := by decide +kernel
theorem dM_pass_106 : decode prog_14_method_90_code 106 = .ok (.iand, 1) := by decide +kernel
theorem dM_pass_107 : decode prog_14_method_90_code 107 = .ok (.iconst (1), 1) := by decide +kernel
theorem dM_pass_108 : decode prog_14_method_90_code 108 = .ok (.if_icmp .eq (17), 3) := by decide +kernel
theorem dM_pass_111 : decode prog_14_method_90_code 111 = .ok (.iload_n 2, 1) := by decide +kernel
theorem dM_pass_112 : decode prog_14_method_90_code 112 = .ok (.iconst (4), 1) := by decide +kernel
theorem dM_pass_113 : decode prog_14_method_90_code 113 = .ok (.if_icmp .ne (16), 3) := by decide +kernel
theorem dM_pass_116 : decode prog_14_method_90_code 116 = .ok (.iload 4, 2) := by decide +kernel
theorem dM_pass_118 : decode prog_14_method_90_code 118 = .ok (.iload_n 3, 1) := by decide +kernel
theorem dM_pass_119 : decode prog_14_method_90_code 119 = .ok (.ishr, 1) := by decide +kernel
theorem dM_pass_120 : decode prog_14_method_90_code 120 = .ok (.iconst (1), 1) := by decide +kernel
theorem dM_pass_121 : decode prog_14_method_90_code 121 = .ok (.iand, 1) := by decide +kernel
theorem dM_pass_122 : decode prog_14_method_90_code 122 = .ok (.ifCond .ne (7), 3) := by decide +kernel
theorem dM_pass_125 : decode prog_14_method_90_code 125 = .ok (.iconst (1), 1) := by decide +kernel
theorem dM_pass_126 : decode prog_14_method_90_code 126 = .ok (.goto (4), 3) := by decide +kernel
theorem dM_pass_129 : decode prog_14_method_90_code 129 = .ok (.iconst (0), 1) := by decide +kernel
theorem dM_pass_130 : decode prog_14_method_90_code 130 = .ok (.istore 6, 2) := by decide +kernel
theorem dM_pass_132 : decode prog_14_method_90_code 132 = .ok (.aload_n 0, 1) := by decide +kernel
theorem dM_pass_133 : decode prog_14_method_90_code 133 = .ok (.getfield 115, 3) := by decide +kernel
theorem dM_pass_136 : decode prog_14_method_90_code 136 = .ok (.iload 4, 2) := by decide +kernel
theorem dM_pass_138 : decode prog_14_method_90_code 138 = .ok (.aload_n 0, 1) := by decide +kernel
theorem dM_pass_139 : decode prog_14_method_90_code 139 = .ok (.getfield 115, 3) := by decide +kernel
theorem dM_pass_142 : decode prog_14_method_90_code 142 = .ok (.iload 4, 2) := by decide +kernel
theorem dM_pass_144 : decode prog_14_method_90_code 144 = .ok (.baload, 1) := by decide +kernel
theorem dM_pass_145 : decode prog_14_method_90_code 145 = .ok (.ifCond .ne (8), 3) := by decide +kernel
theorem dM_pass_148 : decode prog_14_method_90_code 148 = .ok (.iload 6, 2) := by decide +kernel
theorem dM_pass_150 : decode prog_14_method_90_code 150 = .ok (.ifCond .eq (7), 3) := by decide +kernel
theorem dM_pass_153 : decode prog_14_method_90_code 153 = .ok (.iconst (1), 1) := by decide +kernel
theorem dM_pass_154 : decode prog_14_method_90_code 154 = .ok (.goto (4), 3) := by decide +kernel
theorem dM_pass_157 : decode prog_14_method_90_code 157 = .ok (.iconst (0), 1) := by decide +kernel
theorem dM_pass_158 : decode prog_14_method_90_code 158 = .ok (.bastore, 1) := by decide +kernel
theorem dM_pass_159 : decode prog_14_method_90_code 159 = .ok (.iload 5, 2) := by decide +kernel
theorem dM_pass_161 : decode prog_14_method_90_code 161 = .ok (.ifCond .eq (21), 3) := by decide +kernel
theorem dM_pass_164 : decode prog_14_method_90_code 164 = .ok (.iload_n 2, 1) := by decide +kernel
theorem dM_pass_165 : decode prog_14_method_90_code 165 = .ok (.iconst (1), 1) := by decide +kernel
theorem dM_pass_166 : decode prog_14_method_90_code 166 = .ok (.if_icmp .eq (16), 3) := by decide +kernel
theorem dM_pass_169 : decode prog_14_method_90_code 169 = .ok (.aload_n 0, 1) := by decide +kernel
theorem dM_pass_170 : decode prog_14_method_90_code 170 = .ok (.getfield 115, 3) := by decide +kernel
theorem dM_pass_173 : decode prog_14_method_90_code 173 = .ok (.aload_n 0, 1) := by decide +kernel
theorem dM_pass_174 : decode prog_14_method_90_code 174 = .ok (.iload 4, 2) := by decide +kernel
theorem dM_pass_176 : decode prog_14_method_90_code 176 = .ok (.iload_n 3, 1) := by decide +kernel
theorem dM_pass_177 : decode prog_14_method_90_code 177 = .ok (.invokevirtual 376, 3) := by decide +kernel
theorem dM_pass_180 : decode prog_14_method_90_code 180 = .ok (.iconst (1), 1) := by decide +kernel
theorem dM_pass_181 : decode prog_14_method_90_code 181 = .ok (.bastore, 1) := by decide +kernel
theorem dM_pass_182 : decode prog_14_method_90_code 182 = .ok (.iinc 4 (1), 3) := by decide +kernel
theorem dM_pass_185 : decode prog_14_method_90_code 185 = .ok (.goto (-143), 3) := by decide +kernel
theorem dM_pass_188 : decode prog_14_method_90_code 188 = .ok (.iconst (0), 1) := by decide +kernel
theorem dM_pass_189 : decode prog_14_method_90_code 189 = .ok (.istore 4, 2) := by decide +kernel
theorem dM_pass_191 : decode prog_14_method_90_code 191 = .ok (.iload 4, 2) := by decide +kernel
theorem dM_pass_193 : decode prog_14_method_90_code 193 = .ok (.sipush (4096), 3) := by decide +kernel
theorem dM_pass_196 : decode prog_14_method_90_code 196 = .ok (.if_icmp .ge (23), 3) := by decide +kernel
theorem dM_pass_199 : decode prog_14_method_90_code 199 = .ok (.aload_n 0, 1) := by decide +kernel
theorem dM_pass_200 : decode prog_14_method_90_code 200 = .ok (.getfield 112, 3) := by decide +kernel
theorem dM_pass_203 : decode prog_14_method_90_code 203 = .ok (.iload 4, 2) := by decide +kernel
theorem dM_pass_205 : decode prog_14_method_90_code 205 = .ok (.aload_n 0, 1) := by decide +kernel
theorem dM_pass_206 : decode prog_14_method_90_code 206 = .ok (.getfield 115, 3) := by decide +kernel
theorem dM_pass_209 : decode prog_14_method_90_code 209 = .ok (.iload 4, 2) := by decide +kernel
theorem dM_pass_211 : decode prog_14_method_90_code 211 = .ok (.baload, 1) := by decide +kernel
theorem dM_pass_212 : decode prog_14_method_90_code 212 = .ok (.bastore, 1) := by decide +kernel
theorem dM_pass_213 : decode prog_14_method_90_code 213 = .ok (.iinc 4 (1), 3) := by decide +kernel
theorem dM_pass_216 : decode prog_14_method_90_code 216 = .ok (.goto (-25), 3) := by decide +kernel
theorem dM_pass_219 : decode prog_14_method_90_code 219 = .ok (.return_, 1) := by decide +kernel
theorem dM_passAll_0 : decode prog_14_method_91_code 0 = .ok (.iconst (0), 1) := by decide +kernel
theorem dM_passAll_1 : decode prog_14_method_91_code 1 = .ok (.istore_n 2, 1) := by decide +kernel
theorem dM_passAll_2 : decode prog_14_method_91_code 2 = .ok (.iload_n 2, 1) := by decide +kernel
theorem dM_passAll_3 : decode prog_14_method_91_code 3 = .ok (.sipush (4096), 3) := by decide +kernel
theorem dM_passAll_6 : decode prog_14_method_91_code 6 = .ok (.if_icmp .ge (28), 3) := by decide +kernel
theorem dM_passAll_9 : decode prog_14_method_91_code 9 = .ok (.aload_n 0, 1) := by decide +kernel
theorem dM_passAll_10 : decode prog_14_method_91_code 10 = .ok (.getfield 112, 3) := by decide +kernel
theorem dM_passAll_13 : decode prog_14_method_91_code 13 = .ok (.iload_n 2, 1) := by decide +kernel
theorem dM_passAll_14 : decode prog_14_method_91_code 14 = .ok (.iload_n 2, 1) := by decide +kernel
theorem dM_passAll_15 : decode prog_14_method_91_code 15 = .ok (.aload_n 0, 1) := by decide +kernel
theorem dM_passAll_16 : decode prog_14_method_91_code 16 = .ok (.getfield 367, 3) := by decide +kernel
theorem dM_passAll_19 : decode prog_14_method_91_code 19 = .ok (.if_icmp .ne (7), 3) := by decide +kernel
theorem dM_passAll_22 : decode prog_14_method_91_code 22 = .ok (.iconst (1), 1) := by decide +kernel
theorem dM_passAll_23 : decode prog_14_method_91_code 23 = .ok (.goto (4), 3) := by decide +kernel
theorem dM_passAll_26 : decode prog_14_method_91_code 26 = .ok (.iconst (0), 1) := by decide +kernel
theorem dM_passAll_27 : decode prog_14_method_91_code 27 = .ok (.bastore, 1) := by decide +kernel
theorem dM_passAll_28 : decode prog_14_method_91_code 28 = .ok (.iinc 2 (1), 3) := by decide +kernel
theorem dM_passAll_31 : decode prog_14_method_91_code 31 = .ok (.goto (-29), 3) := by decide +kernel
theorem dM_passAll_34 : decode prog_14_method_91_code 34 = .ok (.iconst (0), 1) := by decide +kernel
theorem dM_passAll_35 : decode prog_14_method_91_code 35 = .ok (.istore_n 2, 1) := by decide +kernel
theorem dM_passAll_36 : decode prog_14_method_91_code 36 = .ok (.iload_n 2, 1) := by decide +kernel
theorem dM_passAll_37 : decode prog_14_method_91_code 37 = .ok (.iload_n 1, 1) := by decide +kernel
theorem dM_passAll_38 : decode prog_14_method_91_code 38 = .ok (.if_icmp .ge (14), 3) := by decide +kernel
theorem dM_passAll_41 : decode prog_14_method_91_code 41 = .ok (.aload_n 0, 1) := by decide +kernel
theorem dM_passAll_42 : decode prog_14_method_91_code 42 = .ok (.iload_n 2, 1) := by decide +kernel
theorem dM_passAll_43 : decode prog_14_method_91_code 43 = .ok (.invokevirtual 379, 3) := by decide +kernel
theorem dM_passAll_46 : decode prog_14_method_91_code 46 = .ok (.iinc 2 (1), 3) := by decide +kernel
theorem dM_passAll_49 : decode prog_14_method_91_code 49 = .ok (.goto (-13), 3) := by decide +kernel
theorem dM_passAll_52 : decode prog_14_method_91_code 52 = .ok (.iconst (0), 1) := by decide +kernel
theorem dM_passAll_53 : decode prog_14_method_91_code 53 = .ok (.istore_n 2, 1) := by decide +kernel
theorem dM_passAll_54 : decode prog_14_method_91_code 54 = .ok (.iconst (0), 1) := by decide +kernel
theorem dM_passAll_55 : decode prog_14_method_91_code 55 = .ok (.istore_n 3, 1) := by decide +kernel
theorem dM_passAll_56 : decode prog_14_method_91_code 56 = .ok (.iload_n 3, 1) := by decide +kernel
theorem dM_passAll_57 : decode prog_14_method_91_code 57 = .ok (.sipush (4096), 3) := by decide +kernel
theorem dM_passAll_60 : decode prog_14_method_91_code 60 = .ok (.if_icmp .ge (26), 3) := by decide +kernel
theorem dM_passAll_63 : decode prog_14_method_91_code 63 = .ok (.iload_n 2, 1) := by decide +kernel
theorem dM_passAll_64 : decode prog_14_method_91_code 64 = .ok (.aload_n 0, 1) := by decide +kernel
theorem dM_passAll_65 : decode prog_14_method_91_code 65 = .ok (.getfield 112, 3) := by decide +kernel
theorem dM_passAll_68 : decode prog_14_method_91_code 68 = .ok (.iload_n 3, 1) := by decide +kernel
theorem dM_passAll_69 : decode prog_14_method_91_code 69 = .ok (.baload, 1) := by decide +kernel
theorem dM_passAll_70 : decode prog_14_method_91_code 70 = .ok (.ifCond .eq (7), 3) := by decide +kernel
theorem dM_passAll_73 : decode prog_14_method_91_code 73 = .ok (.iconst (1), 1) := by decide +kernel
theorem dM_passAll_74 : decode prog_14_method_91_code 74 = .ok (.goto (4), 3) := by decide +kernel
theorem dM_passAll_77 : decode prog_14_method_91_code 77 = .ok (.iconst (0), 1) := by decide +kernel
theorem dM_passAll_78 : decode prog_14_method_91_code 78 = .ok (.iadd, 1) := by decide +kernel
theorem dM_passAll_79 : decode prog_14_method_91_code 79 = .ok (.istore_n 2, 1) := by decide +kernel
theorem dM_passAll_80 : decode prog_14_method_91_code 80 = .ok (.iinc 3 (1), 3) := by decide +kernel
theorem dM_passAll_83 : decode prog_14_method_91_code 83 = .ok (.goto (-27), 3) := by decide +kernel
theorem dM_passAll_86 : decode prog_14_method_91_code 86 = .ok (.iload_n 2, 1) := by decide +kernel
theorem dM_passAll_87 : decode prog_14_method_91_code 87 = .ok (.ireturn, 1) := by decide +kernel
theorem dM_worlds_0 : decode prog_14_method_92_code 0 = .ok (.iload_n 1, 1) := by decide +kernel
theorem dM_worlds_1 : decode prog_14_method_92_code 1 = .ok (.iconst (0), 1) := by decide +kernel
theorem dM_worlds_2 : decode prog_14_method_92_code 2 = .ok (.aload_n 0, 1) := by decide +kernel
theorem dM_worlds_3 : decode prog_14_method_92_code 3 = .ok (.getfield 370, 3) := by decide +kernel
theorem dM_worlds_6 : decode prog_14_method_92_code 6 = .ok (.invokestatic 148, 3) := by decide +kernel
theorem dM_worlds_9 : decode prog_14_method_92_code 9 = .ok (.ifCond .eq (11), 3) := by decide +kernel
theorem dM_worlds_12 : decode prog_14_method_92_code 12 = .ok (.aload_n 0, 1) := by decide +kernel
theorem dM_worlds_13 : decode prog_14_method_92_code 13 = .ok (.iload_n 1, 1) := by decide +kernel
theorem dM_worlds_14 : decode prog_14_method_92_code 14 = .ok (.invokevirtual 382, 3) := by decide +kernel
theorem dM_worlds_17 : decode prog_14_method_92_code 17 = .ok (.goto (5), 3) := by decide +kernel
theorem dM_worlds_20 : decode prog_14_method_92_code 20 = .ok (.bipush (-101), 2) := by decide +kernel
theorem dM_worlds_22 : decode prog_14_method_92_code 22 = .ok (.ireturn, 1) := by decide +kernel
theorem dLo_last_0 : decode prog_7_method_3_code 0 = .ok (.aload_n 0, 1) := by decide +kernel
theorem dLo_last_1 : decode prog_7_method_3_code 1 = .ok (.getfield 11, 3) := by decide +kernel
theorem dLo_last_4 : decode prog_7_method_3_code 4 = .ok (.aload_n 0, 1) := by decide +kernel
theorem dLo_last_5 : decode prog_7_method_3_code 5 = .ok (.getfield 22, 3) := by decide +kernel
theorem dLo_last_8 : decode prog_7_method_3_code 8 = .ok (.aaload, 1) := by decide +kernel
theorem dLo_last_9 : decode prog_7_method_3_code 9 = .ok (.areturn, 1) := by decide +kernel
theorem dWo_heldInAll_0 : decode prog_12_method_12_code 0 = .ok (.sipush (4095), 3) := by decide +kernel
theorem dWo_heldInAll_3 : decode prog_12_method_12_code 3 = .ok (.istore_n 1, 1) := by decide +kernel
theorem dWo_heldInAll_4 : decode prog_12_method_12_code 4 = .ok (.iconst (0), 1) := by decide +kernel
theorem dWo_heldInAll_5 : decode prog_12_method_12_code 5 = .ok (.istore_n 2, 1) := by decide +kernel
theorem dWo_heldInAll_6 : decode prog_12_method_12_code 6 = .ok (.iload_n 2, 1) := by decide +kernel
theorem dWo_heldInAll_7 : decode prog_12_method_12_code 7 = .ok (.bipush (12), 2) := by decide +kernel
theorem dWo_heldInAll_9 : decode prog_12_method_12_code 9 = .ok (.if_icmp .ge (58), 3) := by decide +kernel
theorem dWo_heldInAll_12 : decode prog_12_method_12_code 12 = .ok (.iconst (0), 1) := by decide +kernel
theorem dWo_heldInAll_13 : decode prog_12_method_12_code 13 = .ok (.istore_n 3, 1) := by decide +kernel
theorem dWo_heldInAll_14 : decode prog_12_method_12_code 14 = .ok (.iload_n 3, 1) := by decide +kernel
theorem dWo_heldInAll_15 : decode prog_12_method_12_code 15 = .ok (.bipush (64), 2) := by decide +kernel
theorem dWo_heldInAll_17 : decode prog_12_method_12_code 17 = .ok (.if_icmp .ge (44), 3) := by decide +kernel
theorem dWo_heldInAll_20 : decode prog_12_method_12_code 20 = .ok (.iload_n 1, 1) := by decide +kernel
theorem dWo_heldInAll_21 : decode prog_12_method_12_code 21 = .ok (.aload_n 0, 1) := by decide +kernel
theorem dWo_heldInAll_22 : decode prog_12_method_12_code 22 = .ok (.getfield 9, 3) := by decide +kernel
theorem dWo_heldInAll_25 : decode prog_12_method_12_code 25 = .ok (.iload_n 3, 1) := by decide +kernel
theorem dWo_heldInAll_26 : decode prog_12_method_12_code 26 = .ok (.laload, 1) := by decide +kernel
theorem dWo_heldInAll_27 : decode prog_12_method_12_code 27 = .ok (.iload_n 3, 1) := by decide +kernel
theorem dWo_heldInAll_28 : decode prog_12_method_12_code 28 = .ok (.iload_n 2, 1) := by decide +kernel
theorem dWo_heldInAll_29 : decode prog_12_method_12_code 29 = .ok (.invokestatic 36, 3) := by decide +kernel
theorem dWo_heldInAll_32 : decode prog_12_method_12_code 32 = .ok (.ldc2_w 34, 3) := by decide +kernel
theorem dWo_heldInAll_35 : decode prog_12_method_12_code 35 = .ok (.lxor, 1) := by decide +kernel
theorem dWo_heldInAll_36 : decode prog_12_method_12_code 36 = .ok (.land, 1) := by decide +kernel
theorem dWo_heldInAll_37 : decode prog_12_method_12_code 37 = .ok (.lconst 0, 1) := by decide +kernel
theorem dWo_heldInAll_38 : decode prog_12_method_12_code 38 = .ok (.lcmp, 1) := by decide +kernel
theorem dWo_heldInAll_39 : decode prog_12_method_12_code 39 = .ok (.ifCond .eq (11), 3) := by decide +kernel
theorem dWo_heldInAll_42 : decode prog_12_method_12_code 42 = .ok (.iconst (1), 1) := by decide +kernel
theorem dWo_heldInAll_43 : decode prog_12_method_12_code 43 = .ok (.iload_n 2, 1) := by decide +kernel
theorem dWo_heldInAll_44 : decode prog_12_method_12_code 44 = .ok (.ishl, 1) := by decide +kernel
theorem dWo_heldInAll_45 : decode prog_12_method_12_code 45 = .ok (.iconst (-1), 1) := by decide +kernel
theorem dWo_heldInAll_46 : decode prog_12_method_12_code 46 = .ok (.ixor, 1) := by decide +kernel
theorem dWo_heldInAll_47 : decode prog_12_method_12_code 47 = .ok (.goto (6), 3) := by decide +kernel
theorem dWo_heldInAll_50 : decode prog_12_method_12_code 50 = .ok (.sipush (4095), 3) := by decide +kernel
theorem dWo_heldInAll_53 : decode prog_12_method_12_code 53 = .ok (.iand, 1) := by decide +kernel
theorem dWo_heldInAll_54 : decode prog_12_method_12_code 54 = .ok (.istore_n 1, 1) := by decide +kernel
theorem dWo_heldInAll_55 : decode prog_12_method_12_code 55 = .ok (.iinc 3 (1), 3) := by decide +kernel
theorem dWo_heldInAll_58 : decode prog_12_method_12_code 58 = .ok (.goto (-44), 3) := by decide +kernel
theorem dWo_heldInAll_61 : decode prog_12_method_12_code 61 = .ok (.iinc 2 (1), 3) := by decide +kernel
theorem dWo_heldInAll_64 : decode prog_12_method_12_code 64 = .ok (.goto (-58), 3) := by decide +kernel
theorem dWo_heldInAll_67 : decode prog_12_method_12_code 67 = .ok (.iload_n 1, 1) := by decide +kernel
theorem dWo_heldInAll_68 : decode prog_12_method_12_code 68 = .ok (.ireturn, 1) := by decide +kernel
theorem dWo_heldInSome_0 : decode prog_12_method_11_code 0 = .ok (.iconst (0), 1) := by decide +kernel
theorem dWo_heldInSome_1 : decode prog_12_method_11_code 1 = .ok (.istore_n 1, 1) := by decide +kernel
theorem dWo_heldInSome_2 : decode prog_12_method_11_code 2 = .ok (.iconst (0), 1) := by decide +kernel
theorem dWo_heldInSome_3 : decode prog_12_method_11_code 3 = .ok (.istore_n 2, 1) := by decide +kernel
theorem dWo_heldInSome_4 : decode prog_12_method_11_code 4 = .ok (.iload_n 2, 1) := by decide +kernel
theorem dWo_heldInSome_5 : decode prog_12_method_11_code 5 = .ok (.bipush (12), 2) := by decide +kernel
theorem dWo_heldInSome_7 : decode prog_12_method_11_code 7 = .ok (.if_icmp .ge (50), 3) := by decide +kernel
theorem dWo_heldInSome_10 : decode prog_12_method_11_code 10 = .ok (.iconst (0), 1) := by decide +kernel
theorem dWo_heldInSome_11 : decode prog_12_method_11_code 11 = .ok (.istore_n 3, 1) := by decide +kernel
theorem dWo_heldInSome_12 : decode prog_12_method_11_code 12 = .ok (.iload_n 3, 1) := by decide +kernel
theorem dWo_heldInSome_13 : decode prog_12_method_11_code 13 = .ok (.bipush (64), 2) := by decide +kernel
theorem dWo_heldInSome_15 : decode prog_12_method_11_code 15 = .ok (.if_icmp .ge (36), 3) := by decide +kernel
theorem dWo_heldInSome_18 : decode prog_12_method_11_code 18 = .ok (.iload_n 1, 1) := by decide +kernel
theorem dWo_heldInSome_19 : decode prog_12_method_11_code 19 = .ok (.aload_n 0, 1) := by decide +kernel
theorem dWo_heldInSome_20 : decode prog_12_method_11_code 20 = .ok (.getfield 9, 3) := by decide +kernel
theorem dWo_heldInSome_23 : decode prog_12_method_11_code 23 = .ok (.iload_n 3, 1) := by decide +kernel
theorem dWo_heldInSome_24 : decode prog_12_method_11_code 24 = .ok (.laload, 1) := by decide +kernel
theorem dWo_heldInSome_25 : decode prog_12_method_11_code 25 = .ok (.iload_n 3, 1) := by decide +kernel
theorem dWo_heldInSome_26 : decode prog_12_method_11_code 26 = .ok (.iload_n 2, 1) := by decide +kernel
theorem dWo_heldInSome_27 : decode prog_12_method_11_code 27 = .ok (.invokestatic 36, 3) := by decide +kernel
theorem dWo_heldInSome_30 : decode prog_12_method_11_code 30 = .ok (.land, 1) := by decide +kernel
theorem dWo_heldInSome_31 : decode prog_12_method_11_code 31 = .ok (.lconst 0, 1) := by decide +kernel
theorem dWo_heldInSome_32 : decode prog_12_method_11_code 32 = .ok (.lcmp, 1) := by decide +kernel
theorem dWo_heldInSome_33 : decode prog_12_method_11_code 33 = .ok (.ifCond .eq (9), 3) := by decide +kernel
theorem dWo_heldInSome_36 : decode prog_12_method_11_code 36 = .ok (.iconst (1), 1) := by decide +kernel
theorem dWo_heldInSome_37 : decode prog_12_method_11_code 37 = .ok (.iload_n 2, 1) := by decide +kernel
theorem dWo_heldInSome_38 : decode prog_12_method_11_code 38 = .ok (.ishl, 1) := by decide +kernel
theorem dWo_heldInSome_39 : decode prog_12_method_11_code 39 = .ok (.goto (4), 3) := by decide +kernel
theorem dWo_heldInSome_42 : decode prog_12_method_11_code 42 = .ok (.iconst (0), 1) := by decide +kernel
theorem dWo_heldInSome_43 : decode prog_12_method_11_code 43 = .ok (.ior, 1) := by decide +kernel
theorem dWo_heldInSome_44 : decode prog_12_method_11_code 44 = .ok (.istore_n 1, 1) := by decide +kernel
theorem dWo_heldInSome_45 : decode prog_12_method_11_code 45 = .ok (.iinc 3 (1), 3) := by decide +kernel
theorem dWo_heldInSome_48 : decode prog_12_method_11_code 48 = .ok (.goto (-36), 3) := by decide +kernel
theorem dWo_heldInSome_51 : decode prog_12_method_11_code 51 = .ok (.iinc 2 (1), 3) := by decide +kernel
theorem dWo_heldInSome_54 : decode prog_12_method_11_code 54 = .ok (.goto (-50), 3) := by decide +kernel
theorem dWo_heldInSome_57 : decode prog_12_method_11_code 57 = .ok (.iload_n 1, 1) := by decide +kernel
theorem dWo_heldInSome_58 : decode prog_12_method_11_code 58 = .ok (.ireturn, 1) := by decide +kernel
theorem dC_held_0 : decode prog_1_method_37_code 0 = .ok (.iload_n 1, 1) := by decide +kernel
theorem dC_held_1 : decode prog_1_method_37_code 1 = .ok (.ifCond .lt (8), 3) := by decide +kernel
theorem dC_held_4 : decode prog_1_method_37_code 4 = .ok (.iload_n 1, 1) := by decide +kernel
theorem dC_held_5 : decode prog_1_method_37_code 5 = .ok (.iconst (1), 1) := by decide +kernel
theorem dC_held_6 : decode prog_1_method_37_code 6 = .ok (.if_icmp .le (6), 3) := by decide +kernel
theorem dC_held_9 : decode prog_1_method_37_code 9 = .ok (.bipush (-102), 2) := by decide +kernel
theorem dC_held_11 : decode prog_1_method_37_code 11 = .ok (.ireturn, 1) := by decide +kernel
theorem dC_held_12 : decode prog_1_method_37_code 12 = .ok (.aload_n 0, 1) := by decide +kernel
theorem dC_held_13 : decode prog_1_method_37_code 13 = .ok (.getfield 53, 3) := by decide +kernel
theorem dC_held_16 : decode prog_1_method_37_code 16 = .ok (.invokevirtual 270, 3) := by decide +kernel
theorem dC_held_19 : decode prog_1_method_37_code 19 = .ok (.astore_n 2, 1) := by decide +kernel
theorem dC_held_20 : decode prog_1_method_37_code 20 = .ok (.aload_n 2, 1) := by decide +kernel
theorem dC_held_21 : decode prog_1_method_37_code 21 = .ok (.invokevirtual 266, 3) := by decide +kernel
theorem dC_held_24 : decode prog_1_method_37_code 24 = .ok (.ifCond .ne (6), 3) := by decide +kernel
theorem dC_held_27 : decode prog_1_method_37_code 27 = .ok (.bipush (-103), 2) := by decide +kernel
theorem dC_held_29 : decode prog_1_method_37_code 29 = .ok (.ireturn, 1) := by decide +kernel
theorem dC_held_30 : decode prog_1_method_37_code 30 = .ok (.iload_n 1, 1) := by decide +kernel
theorem dC_held_31 : decode prog_1_method_37_code 31 = .ok (.ifCond .ne (10), 3) := by decide +kernel
theorem dC_held_34 : decode prog_1_method_37_code 34 = .ok (.aload_n 2, 1) := by decide +kernel
theorem dC_held_35 : decode prog_1_method_37_code 35 = .ok (.invokevirtual 274, 3) := by decide +kernel
theorem dC_held_38 : decode prog_1_method_37_code 38 = .ok (.goto (7), 3) := by decide +kernel
theorem dC_held_41 : decode prog_1_method_37_code 41 = .ok (.aload_n 2, 1) := by decide +kernel
theorem dC_held_42 : decode prog_1_method_37_code 42 = .ok (.invokevirtual 277, 3) := by decide +kernel
theorem dC_held_45 : decode prog_1_method_37_code 45 = .ok (.ireturn, 1) := by decide +kernel
theorem dM_held_0 : decode prog_14_method_93_code 0 = .ok (.iload_n 1, 1) := by decide +kernel
theorem dM_held_1 : decode prog_14_method_93_code 1 = .ok (.iconst (0), 1) := by decide +kernel
theorem dM_held_2 : decode prog_14_method_93_code 2 = .ok (.iconst (1), 1) := by decide +kernel
theorem dM_held_3 : decode prog_14_method_93_code 3 = .ok (.invokestatic 148, 3) := by decide +kernel
theorem dM_held_6 : decode prog_14_method_93_code 6 = .ok (.ifCond .ne (6), 3) := by decide +kernel
theorem dM_held_9 : decode prog_14_method_93_code 9 = .ok (.bipush (-102), 2) := by decide +kernel
theorem dM_held_11 : decode prog_14_method_93_code 11 = .ok (.ireturn, 1) := by decide +kernel
theorem dM_held_12 : decode prog_14_method_93_code 12 = .ok (.aload_n 0, 1) := by decide +kernel
theorem dM_held_13 : decode prog_14_method_93_code 13 = .ok (.aload_n 0, 1) := by decide +kernel
theorem dM_held_14 : decode prog_14_method_93_code 14 = .ok (.getfield 370, 3) := by decide +kernel
theorem dM_held_17 : decode prog_14_method_93_code 17 = .ok (.invokevirtual 382, 3) := by decide +kernel
theorem dM_held_20 : decode prog_14_method_93_code 20 = .ok (.ifCond .ne (6), 3) := by decide +kernel
theorem dM_held_23 : decode prog_14_method_93_code 23 = .ok (.bipush (-103), 2) := by decide +kernel
theorem dM_held_25 : decode prog_14_method_93_code 25 = .ok (.ireturn, 1) := by decide +kernel
theorem dM_held_26 : decode prog_14_method_93_code 26 = .ok (.sipush (4095), 3) := by decide +kernel
theorem dM_held_29 : decode prog_14_method_93_code 29 = .ok (.istore_n 2, 1) := by decide +kernel
theorem dM_held_30 : decode prog_14_method_93_code 30 = .ok (.iconst (0), 1) := by decide +kernel
theorem dM_held_31 : decode prog_14_method_93_code 31 = .ok (.istore_n 3, 1) := by decide +kernel
theorem dM_held_32 : decode prog_14_method_93_code 32 = .ok (.iconst (0), 1) := by decide +kernel
theorem dM_held_33 : decode prog_14_method_93_code 33 = .ok (.istore 4, 2) := by decide +kernel
theorem dM_held_35 : decode prog_14_method_93_code 35 = .ok (.iload 4, 2) := by decide +kernel
theorem dM_held_37 : decode prog_14_method_93_code 37 = .ok (.sipush (4096), 3) := by decide +kernel
theorem dM_held_40 : decode prog_14_method_93_code 40 = .ok (.if_icmp .ge (49), 3) := by decide +kernel
theorem dM_held_43 : decode prog_14_method_93_code 43 = .ok (.iload_n 2, 1) := by decide +kernel
theorem dM_held_44 : decode prog_14_method_93_code 44 = .ok (.aload_n 0, 1) := by decide +kernel
theorem dM_held_45 : decode prog_14_method_93_code 45 = .ok (.getfield 112, 3) := by decide +kernel
theorem dM_held_48 : decode prog_14_method_93_code 48 = .ok (.iload 4, 2) := by decide +kernel
theorem dM_held_50 : decode prog_14_method_93_code 50 = .ok (.baload, 1) := by decide +kernel
theorem dM_held_51 : decode prog_14_method_93_code 51 = .ok (.ifCond .eq (8), 3) := by decide +kernel
theorem dM_held_54 : decode prog_14_method_93_code 54 = .ok (.iload 4, 2) := by decide +kernel
theorem dM_held_56 : decode prog_14_method_93_code 56 = .ok (.goto (6), 3) := by decide +kernel
theorem dM_held_59 : decode prog_14_method_93_code 59 = .ok (.sipush (4095), 3) := by decide +kernel
theorem dM_held_62 : decode prog_14_method_93_code 62 = .ok (.iand, 1) := by decide +kernel
theorem dM_held_63 : decode prog_14_method_93_code 63 = .ok (.istore_n 2, 1) := by decide +kernel
theorem dM_held_64 : decode prog_14_method_93_code 64 = .ok (.iload_n 3, 1) := by decide +kernel
theorem dM_held_65 : decode prog_14_method_93_code 65 = .ok (.aload_n 0, 1) := by decide +kernel
theorem dM_held_66 : decode prog_14_method_93_code 66 = .ok (.getfield 112, 3) := by decide +kernel
theorem dM_held_69 : decode prog_14_method_93_code 69 = .ok (.iload 4, 2) := by decide +kernel
theorem dM_held_71 : decode prog_14_method_93_code 71 = .ok (.baload, 1) := by decide +kernel
theorem dM_held_72 : decode prog_14_method_93_code 72 = .ok (.ifCond .eq (8), 3) := by decide +kernel
theorem dM_held_75 : decode prog_14_method_93_code 75 = .ok (.iload 4, 2) := by decide +kernel
theorem dM_held_77 : decode prog_14_method_93_code 77 = .ok (.goto (4), 3) := by decide +kernel
theorem dM_held_80 : decode prog_14_method_93_code 80 = .ok (.iconst (0), 1) := by decide +kernel
theorem dM_held_81 : decode prog_14_method_93_code 81 = .ok (.ior, 1) := by decide +kernel
theorem dM_held_82 : decode prog_14_method_93_code 82 = .ok (.istore_n 3, 1) := by decide +kernel
theorem dM_held_83 : decode prog_14_method_93_code 83 = .ok (.iinc 4 (1), 3) := by decide +kernel
theorem dM_held_86 : decode prog_14_method_93_code 86 = .ok (.goto (-51), 3) := by decide +kernel
theorem dM_held_89 : decode prog_14_method_93_code 89 = .ok (.iload_n 1, 1) := by decide +kernel
theorem dM_held_90 : decode prog_14_method_93_code 90 = .ok (.ifCond .ne (7), 3) := by decide +kernel
theorem dM_held_93 : decode prog_14_method_93_code 93 = .ok (.iload_n 2, 1) := by decide +kernel
theorem dM_held_94 : decode prog_14_method_93_code 94 = .ok (.goto (4), 3) := by decide +kernel
theorem dM_held_97 : decode prog_14_method_93_code 97 = .ok (.iload_n 3, 1) := by decide +kernel
theorem dM_held_98 : decode prog_14_method_93_code 98 = .ok (.ireturn, 1) := by decide +kernel
theorem dWo_bitNumbered_0 : decode prog_12_method_14_code 0 = .ok (.lload_n 0, 1) := by decide +kernel
theorem dWo_bitNumbered_1 : decode prog_12_method_14_code 1 = .ok (.lstore_n 3, 1) := by decide +kernel
theorem dWo_bitNumbered_2 : decode prog_12_method_14_code 2 = .ok (.iconst (0), 1) := by decide +kernel
theorem dWo_bitNumbered_3 : decode prog_12_method_14_code 3 = .ok (.istore 5, 2) := by decide +kernel
theorem dWo_bitNumbered_5 : decode prog_12_method_14_code 5 = .ok (.iload 5, 2) := by decide +kernel
theorem dWo_bitNumbered_7 : decode prog_12_method_14_code 7 = .ok (.iload_n 2, 1) := by decide +kernel
theorem dWo_bitNumbered_8 : decode prog_12_method_14_code 8 = .ok (.if_icmp .ge (15), 3) := by decide +kernel
theorem dWo_bitNumbered_11 : decode prog_12_method_14_code 11 = .ok (.lload_n 3, 1) := by decide +kernel
theorem dWo_bitNumbered_12 : decode prog_12_method_14_code 12 = .ok (.lload_n 3, 1) := by decide +kernel
theorem dWo_bitNumbered_13 : decode prog_12_method_14_code 13 = .ok (.lconst 1, 1) := by decide +kernel
theorem dWo_bitNumbered_14 : decode prog_12_method_14_code 14 = .ok (.lsub, 1) := by decide +kernel
theorem dWo_bitNumbered_15 : decode prog_12_method_14_code 15 = .ok (.land, 1) := by decide +kernel
theorem dWo_bitNumbered_16 : decode prog_12_method_14_code 16 = .ok (.lstore_n 3, 1) := by decide +kernel
theorem dWo_bitNumbered_17 : decode prog_12_method_14_code 17 = .ok (.iinc 5 (1), 3) := by decide +kernel
theorem dWo_bitNumbered_20 : decode prog_12_method_14_code 20 = .ok (.goto (-15), 3) := by decide +kernel
theorem dWo_bitNumbered_23 : decode prog_12_method_14_code 23 = .ok (.lload_n 3, 1) := by decide +kernel
theorem dWo_bitNumbered_24 : decode prog_12_method_14_code 24 = .ok (.lload_n 3, 1) := by decide +kernel
theorem dWo_bitNumbered_25 : decode prog_12_method_14_code 25 = .ok (.lneg, 1) := by decide +kernel
theorem dWo_bitNumbered_26 : decode prog_12_method_14_code 26 = .ok (.land, 1) := by decide +kernel
theorem dWo_bitNumbered_27 : decode prog_12_method_14_code 27 = .ok (.lconst 1, 1) := by decide +kernel
theorem dWo_bitNumbered_28 : decode prog_12_method_14_code 28 = .ok (.lsub, 1) := by decide +kernel
theorem dWo_bitNumbered_29 : decode prog_12_method_14_code 29 = .ok (.invokestatic 57, 3) := by decide +kernel
theorem dWo_bitNumbered_32 : decode prog_12_method_14_code 32 = .ok (.ireturn, 1) := by decide +kernel
theorem dWo_numbered_0 : decode prog_12_method_13_code 0 = .ok (.iload_n 1, 1) := by decide +kernel
theorem dWo_numbered_1 : decode prog_12_method_13_code 1 = .ok (.istore_n 2, 1) := by decide +kernel
theorem dWo_numbered_2 : decode prog_12_method_13_code 2 = .ok (.iconst (0), 1) := by decide +kernel
theorem dWo_numbered_3 : decode prog_12_method_13_code 3 = .ok (.istore_n 3, 1) := by decide +kernel
theorem dWo_numbered_4 : decode prog_12_method_13_code 4 = .ok (.iload_n 3, 1) := by decide +kernel
theorem dWo_numbered_5 : decode prog_12_method_13_code 5 = .ok (.bipush (64), 2) := by decide +kernel
theorem dWo_numbered_7 : decode prog_12_method_13_code 7 = .ok (.if_icmp .ge (51), 3) := by decide +kernel
theorem dWo_numbered_10 : decode prog_12_method_13_code 10 = .ok (.iload_n 2, 1) := by decide +kernel
theorem dWo_numbered_11 : decode prog_12_method_13_code 11 = .ok (.ifCond .lt (47), 3) := by decide +kernel
theorem dWo_numbered_14 : decode prog_12_method_13_code 14 = .ok (.aload_n 0, 1) := by decide +kernel
theorem dWo_numbered_15 : decode prog_12_method_13_code 15 = .ok (.getfield 9, 3) := by decide +kernel
theorem dWo_numbered_18 : decode prog_12_method_13_code 18 = .ok (.iload_n 3, 1) := by decide +kernel
theorem dWo_numbered_19 : decode prog_12_method_13_code 19 = .ok (.laload, 1) := by decide +kernel
theorem dWo_numbered_20 : decode prog_12_method_13_code 20 = .ok (.invokestatic 57, 3) := by decide +kernel
theorem dWo_numbered_23 : decode prog_12_method_13_code 23 = .ok (.istore 4, 2) := by decide +kernel
theorem dWo_numbered_25 : decode prog_12_method_13_code 25 = .ok (.iload_n 2, 1) := by decide +kernel
theorem dWo_numbered_26 : decode prog_12_method_13_code 26 = .ok (.iload 4, 2) := by decide +kernel
theorem dWo_numbered_28 : decode prog_12_method_13_code 28 = .ok (.if_icmp .ge (19), 3) := by decide +kernel
theorem dWo_numbered_31 : decode prog_12_method_13_code 31 = .ok (.iload_n 3, 1) := by decide +kernel
theorem dWo_numbered_32 : decode prog_12_method_13_code 32 = .ok (.bipush (6), 2) := by decide +kernel
theorem dWo_numbered_34 : decode prog_12_method_13_code 34 = .ok (.ishl, 1) := by decide +kernel
theorem dWo_numbered_35 : decode prog_12_method_13_code 35 = .ok (.aload_n 0, 1) := by decide +kernel
theorem dWo_numbered_36 : decode prog_12_method_13_code 36 = .ok (.getfield 9, 3) := by decide +kernel
theorem dWo_numbered_39 : decode prog_12_method_13_code 39 = .ok (.iload_n 3, 1) := by decide +kernel
theorem dWo_numbered_40 : decode prog_12_method_13_code 40 = .ok (.laload, 1) := by decide +kernel
theorem dWo_numbered_41 : decode prog_12_method_13_code 41 = .ok (.iload_n 2, 1) := by decide +kernel
theorem dWo_numbered_42 : decode prog_12_method_13_code 42 = .ok (.invokestatic 63, 3) := by decide +kernel
theorem dWo_numbered_45 : decode prog_12_method_13_code 45 = .ok (.ior, 1) := by decide +kernel
theorem dWo_numbered_46 : decode prog_12_method_13_code 46 = .ok (.ireturn, 1) := by decide +kernel
theorem dWo_numbered_47 : decode prog_12_method_13_code 47 = .ok (.iload_n 2, 1) := by decide +kernel
theorem dWo_numbered_48 : decode prog_12_method_13_code 48 = .ok (.iload 4, 2) := by decide +kernel
theorem dWo_numbered_50 : decode prog_12_method_13_code 50 = .ok (.isub, 1) := by decide +kernel
theorem dWo_numbered_51 : decode prog_12_method_13_code 51 = .ok (.istore_n 2, 1) := by decide +kernel
theorem dWo_numbered_52 : decode prog_12_method_13_code 52 = .ok (.iinc 3 (1), 3) := by decide +kernel
theorem dWo_numbered_55 : decode prog_12_method_13_code 55 = .ok (.goto (-51), 3) := by decide +kernel
theorem dWo_numbered_58 : decode prog_12_method_13_code 58 = .ok (.iconst (-1), 1) := by decide +kernel
theorem dWo_numbered_59 : decode prog_12_method_13_code 59 = .ok (.ireturn, 1) := by decide +kernel
theorem dC_world_0 : decode prog_1_method_38_code 0 = .ok (.aload_n 0, 1) := by decide +kernel
theorem dC_world_1 : decode prog_1_method_38_code 1 = .ok (.getfield 53, 3) := by decide +kernel
theorem dC_world_4 : decode prog_1_method_38_code 4 = .ok (.invokevirtual 270, 3) := by decide +kernel
theorem dC_world_7 : decode prog_1_method_38_code 7 = .ok (.iload_n 1, 1) := by decide +kernel
theorem dC_world_8 : decode prog_1_method_38_code 8 = .ok (.invokevirtual 280, 3) := by decide +kernel
theorem dC_world_11 : decode prog_1_method_38_code 11 = .ok (.ireturn, 1) := by decide +kernel
theorem dM_world_0 : decode prog_14_method_94_code 0 = .ok (.aload_n 0, 1) := by decide +kernel
theorem dM_world_1 : decode prog_14_method_94_code 1 = .ok (.aload_n 0, 1) := by decide +kernel
theorem dM_world_2 : decode prog_14_method_94_code 2 = .ok (.getfield 370, 3) := by decide +kernel
theorem dM_world_5 : decode prog_14_method_94_code 5 = .ok (.invokevirtual 382, 3) := by decide +kernel
theorem dM_world_8 : decode prog_14_method_94_code 8 = .ok (.pop, 1) := by decide +kernel
theorem dM_world_9 : decode prog_14_method_94_code 9 = .ok (.iload_n 1, 1) := by decide +kernel
theorem dM_world_10 : decode prog_14_method_94_code 10 = .ok (.istore_n 2, 1) := by decide +kernel
theorem dM_world_11 : decode prog_14_method_94_code 11 = .ok (.iconst (0), 1) := by decide +kernel
