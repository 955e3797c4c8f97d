theorem dM_gather_79 : decode prog_14_method_10_code 79 = .ok (.lastore, 1) := by decide +kernel
theorem dM_gather_80 : decode prog_14_method_10_code 80 = .ok (.return_, 1) := by decide +kernel
theorem dM_close_0 : decode prog_14_method_11_code 0 = .ok (.iload_n 1, 1) := by decide +kernel
theorem dM_close_1 : decode prog_14_method_11_code 1 = .ok (.iconst (1), 1) := by decide +kernel
theorem dM_close_2 : decode prog_14_method_11_code 2 = .ok (.if_icmp .ne (57), 3) := by decide +kernel
theorem dM_close_5 : decode prog_14_method_11_code 5 = .ok (.aload_n 0, 1) := by decide +kernel
theorem dM_close_6 : decode prog_14_method_11_code 6 = .ok (.invokevirtual 137, 3) := by decide +kernel
theorem dM_close_9 : decode prog_14_method_11_code 9 = .ok (.aload_n 0, 1) := by decide +kernel
theorem dM_close_10 : decode prog_14_method_11_code 10 = .ok (.dup, 1) := by decide +kernel
theorem dM_close_11 : decode prog_14_method_11_code 11 = .ok (.getfield 124, 3) := by decide +kernel
theorem dM_close_14 : decode prog_14_method_11_code 14 = .ok (.iconst (1), 1) := by decide +kernel
theorem dM_close_15 : decode prog_14_method_11_code 15 = .ok (.isub, 1) := by decide +kernel
theorem dM_close_16 : decode prog_14_method_11_code 16 = .ok (.putfield 124, 3) := by decide +kernel
theorem dM_close_19 : decode prog_14_method_11_code 19 = .ok (.aload_n 0, 1) := by decide +kernel
theorem dM_close_20 : decode prog_14_method_11_code 20 = .ok (.aload_n 0, 1) := by decide +kernel
theorem dM_close_21 : decode prog_14_method_11_code 21 = .ok (.getfield 64, 3) := by decide +kernel
theorem dM_close_24 : decode prog_14_method_11_code 24 = .ok (.aload_n 0, 1) := by decide +kernel
theorem dM_close_25 : decode prog_14_method_11_code 25 = .ok (.getfield 124, 3) := by decide +kernel
theorem dM_close_28 : decode prog_14_method_11_code 28 = .ok (.iconst (1), 1) := by decide +kernel
theorem dM_close_29 : decode prog_14_method_11_code 29 = .ok (.iadd, 1) := by decide +kernel
theorem dM_close_30 : decode prog_14_method_11_code 30 = .ok (.baload, 1) := by decide +kernel
theorem dM_close_31 : decode prog_14_method_11_code 31 = .ok (.aload_n 0, 1) := by decide +kernel
theorem dM_close_32 : decode prog_14_method_11_code 32 = .ok (.getfield 67, 3) := by decide +kernel
theorem dM_close_35 : decode prog_14_method_11_code 35 = .ok (.aload_n 0, 1) := by decide +kernel
theorem dM_close_36 : decode prog_14_method_11_code 36 = .ok (.getfield 124, 3) := by decide +kernel
theorem dM_close_39 : decode prog_14_method_11_code 39 = .ok (.iconst (1), 1) := by decide +kernel
theorem dM_close_40 : decode prog_14_method_11_code 40 = .ok (.iadd, 1) := by decide +kernel
theorem dM_close_41 : decode prog_14_method_11_code 41 = .ok (.laload, 1) := by decide +kernel
theorem dM_close_42 : decode prog_14_method_11_code 42 = .ok (.aload_n 0, 1) := by decide +kernel
theorem dM_close_43 : decode prog_14_method_11_code 43 = .ok (.getfield 70, 3) := by decide +kernel
theorem dM_close_46 : decode prog_14_method_11_code 46 = .ok (.aload_n 0, 1) := by decide +kernel
theorem dM_close_47 : decode prog_14_method_11_code 47 = .ok (.getfield 124, 3) := by decide +kernel
theorem dM_close_50 : decode prog_14_method_11_code 50 = .ok (.iconst (1), 1) := by decide +kernel
theorem dM_close_51 : decode prog_14_method_11_code 51 = .ok (.iadd, 1) := by decide +kernel
theorem dM_close_52 : decode prog_14_method_11_code 52 = .ok (.laload, 1) := by decide +kernel
theorem dM_close_53 : decode prog_14_method_11_code 53 = .ok (.invokevirtual 140, 3) := by decide +kernel
theorem dM_close_56 : decode prog_14_method_11_code 56 = .ok (.goto (62), 3) := by decide +kernel
theorem dM_close_59 : decode prog_14_method_11_code 59 = .ok (.aload_n 0, 1) := by decide +kernel
theorem dM_close_60 : decode prog_14_method_11_code 60 = .ok (.aload_n 0, 1) := by decide +kernel
theorem dM_close_61 : decode prog_14_method_11_code 61 = .ok (.getfield 61, 3) := by decide +kernel
theorem dM_close_64 : decode prog_14_method_11_code 64 = .ok (.aload_n 0, 1) := by decide +kernel
theorem dM_close_65 : decode prog_14_method_11_code 65 = .ok (.getfield 124, 3) := by decide +kernel
theorem dM_close_68 : decode prog_14_method_11_code 68 = .ok (.laload, 1) := by decide +kernel
theorem dM_close_69 : decode prog_14_method_11_code 69 = .ok (.aload_n 0, 1) := by decide +kernel
theorem dM_close_70 : decode prog_14_method_11_code 70 = .ok (.getfield 57, 3) := by decide +kernel
theorem dM_close_73 : decode prog_14_method_11_code 73 = .ok (.aload_n 0, 1) := by decide +kernel
theorem dM_close_74 : decode prog_14_method_11_code 74 = .ok (.getfield 124, 3) := by decide +kernel
theorem dM_close_77 : decode prog_14_method_11_code 77 = .ok (.laload, 1) := by decide +kernel
theorem dM_close_78 : decode prog_14_method_11_code 78 = .ok (.invokevirtual 130, 3) := by decide +kernel
theorem dM_close_81 : decode prog_14_method_11_code 81 = .ok (.aload_n 0, 1) := by decide +kernel
theorem dM_close_82 : decode prog_14_method_11_code 82 = .ok (.dup, 1) := by decide +kernel
theorem dM_close_83 : decode prog_14_method_11_code 83 = .ok (.getfield 124, 3) := by decide +kernel
theorem dM_close_86 : decode prog_14_method_11_code 86 = .ok (.iconst (1), 1) := by decide +kernel
theorem dM_close_87 : decode prog_14_method_11_code 87 = .ok (.isub, 1) := by decide +kernel
theorem dM_close_88 : decode prog_14_method_11_code 88 = .ok (.putfield 124, 3) := by decide +kernel
theorem dM_close_91 : decode prog_14_method_11_code 91 = .ok (.aload_n 0, 1) := by decide +kernel
theorem dM_close_92 : decode prog_14_method_11_code 92 = .ok (.iconst (1), 1) := by decide +kernel
theorem dM_close_93 : decode prog_14_method_11_code 93 = .ok (.aload_n 0, 1) := by decide +kernel
theorem dM_close_94 : decode prog_14_method_11_code 94 = .ok (.getfield 57, 3) := by decide +kernel
theorem dM_close_97 : decode prog_14_method_11_code 97 = .ok (.aload_n 0, 1) := by decide +kernel
theorem dM_close_98 : decode prog_14_method_11_code 98 = .ok (.getfield 124, 3) := by decide +kernel
theorem dM_close_101 : decode prog_14_method_11_code 101 = .ok (.iconst (1), 1) := by decide +kernel
theorem dM_close_102 : decode prog_14_method_11_code 102 = .ok (.iadd, 1) := by decide +kernel
theorem dM_close_103 : decode prog_14_method_11_code 103 = .ok (.laload, 1) := by decide +kernel
theorem dM_close_104 : decode prog_14_method_11_code 104 = .ok (.aload_n 0, 1) := by decide +kernel
theorem dM_close_105 : decode prog_14_method_11_code 105 = .ok (.getfield 61, 3) := by decide +kernel
theorem dM_close_108 : decode prog_14_method_11_code 108 = .ok (.aload_n 0, 1) := by decide +kernel
theorem dM_close_109 : decode prog_14_method_11_code 109 = .ok (.getfield 124, 3) := by decide +kernel
theorem dM_close_112 : decode prog_14_method_11_code 112 = .ok (.iconst (1), 1) := by decide +kernel
theorem dM_close_113 : decode prog_14_method_11_code 113 = .ok (.iadd, 1) := by decide +kernel
theorem dM_close_114 : decode prog_14_method_11_code 114 = .ok (.laload, 1) := by decide +kernel
theorem dM_close_115 : decode prog_14_method_11_code 115 = .ok (.invokevirtual 140, 3) := by decide +kernel
theorem dM_close_118 : decode prog_14_method_11_code 118 = .ok (.return_, 1) := by decide +kernel
theorem dM_readPage_0 : decode prog_14_method_12_code 0 = .ok (.aload_n 0, 1) := by decide +kernel
theorem dM_readPage_1 : decode prog_14_method_12_code 1 = .ok (.iconst (-1), 1) := by decide +kernel
theorem dM_readPage_2 : decode prog_14_method_12_code 2 = .ok (.putfield 124, 3) := by decide +kernel
theorem dM_readPage_5 : decode prog_14_method_12_code 5 = .ok (.aload_n 0, 1) := by decide +kernel
theorem dM_readPage_6 : decode prog_14_method_12_code 6 = .ok (.iconst (0), 1) := by decide +kernel
theorem dM_readPage_7 : decode prog_14_method_12_code 7 = .ok (.putfield 134, 3) := by decide +kernel
theorem dM_readPage_10 : decode prog_14_method_12_code 10 = .ok (.aload_n 0, 1) := by decide +kernel
theorem dM_readPage_11 : decode prog_14_method_12_code 11 = .ok (.iconst (0), 1) := by decide +kernel
theorem dM_readPage_12 : decode prog_14_method_12_code 12 = .ok (.invokevirtual 144, 3) := by decide +kernel
theorem dM_readPage_15 : decode prog_14_method_12_code 15 = .ok (.iconst (0), 1) := by decide +kernel
theorem dM_readPage_16 : decode prog_14_method_12_code 16 = .ok (.istore_n 1, 1) := by decide +kernel
theorem dM_readPage_17 : decode prog_14_method_12_code 17 = .ok (.iload_n 1, 1) := by decide +kernel
theorem dM_readPage_18 : decode prog_14_method_12_code 18 = .ok (.bipush (40), 2) := by decide +kernel
theorem dM_readPage_20 : decode prog_14_method_12_code 20 = .ok (.if_icmp .ge (16), 3) := by decide +kernel
theorem dM_readPage_23 : decode prog_14_method_12_code 23 = .ok (.aload_n 0, 1) := by decide +kernel
theorem dM_readPage_24 : decode prog_14_method_12_code 24 = .ok (.getfield 76, 3) := by decide +kernel
theorem dM_readPage_27 : decode prog_14_method_12_code 27 = .ok (.iload_n 1, 1) := by decide +kernel
theorem dM_readPage_28 : decode prog_14_method_12_code 28 = .ok (.lconst 0, 1) := by decide +kernel
theorem dM_readPage_29 : decode prog_14_method_12_code 29 = .ok (.lastore, 1) := by decide +kernel
theorem dM_readPage_30 : decode prog_14_method_12_code 30 = .ok (.iinc 1 (1), 3) := by decide +kernel
theorem dM_readPage_33 : decode prog_14_method_12_code 33 = .ok (.goto (-16), 3) := by decide +kernel
theorem dM_readPage_36 : decode prog_14_method_12_code 36 = .ok (.iconst (0), 1) := by decide +kernel
theorem dM_readPage_37 : decode prog_14_method_12_code 37 = .ok (.istore_n 1, 1) := by decide +kernel
theorem dM_readPage_38 : decode prog_14_method_12_code 38 = .ok (.iconst (-1), 1) := by decide +kernel
theorem dM_readPage_39 : decode prog_14_method_12_code 39 = .ok (.istore_n 2, 1) := by decide +kernel
theorem dM_readPage_40 : decode prog_14_method_12_code 40 = .ok (.iconst (0), 1) := by decide +kernel
theorem dM_readPage_41 : decode prog_14_method_12_code 41 = .ok (.istore_n 3, 1) := by decide +kernel
theorem dM_readPage_42 : decode prog_14_method_12_code 42 = .ok (.iconst (1), 1) := by decide +kernel
theorem dM_readPage_43 : decode prog_14_method_12_code 43 = .ok (.istore 4, 2) := by decide +kernel
theorem dM_readPage_45 : decode prog_14_method_12_code 45 = .ok (.iload_n 3, 1) := by decide +kernel
theorem dM_readPage_46 : decode prog_14_method_12_code 46 = .ok (.aload_n 0, 1) := by decide +kernel
theorem dM_readPage_47 : decode prog_14_method_12_code 47 = .ok (.getfield 120, 3) := by decide +kernel
theorem dM_readPage_50 : decode prog_14_method_12_code 50 = .ok (.if_icmp .ge (322), 3) := by decide +kernel
theorem dM_readPage_53 : decode prog_14_method_12_code 53 = .ok (.iload 4, 2) := by decide +kernel
theorem dM_readPage_55 : decode prog_14_method_12_code 55 = .ok (.ifCond .eq (317), 3) := by decide +kernel
theorem dM_readPage_58 : decode prog_14_method_12_code 58 = .ok (.aload_n 0, 1) := by decide +kernel
theorem dM_readPage_59 : decode prog_14_method_12_code 59 = .ok (.getfield 7, 3) := by decide +kernel
theorem dM_readPage_62 : decode prog_14_method_12_code 62 = .ok (.iload_n 3, 1) := by decide +kernel
theorem dM_readPage_63 : decode prog_14_method_12_code 63 = .ok (.baload, 1) := by decide +kernel
theorem dM_readPage_64 : decode prog_14_method_12_code 64 = .ok (.istore 5, 2) := by decide +kernel
theorem dM_readPage_66 : decode prog_14_method_12_code 66 = .ok (.iload_n 2, 1) := by decide +kernel
theorem dM_readPage_67 : decode prog_14_method_12_code 67 = .ok (.iconst (-1), 1) := by decide +kernel
theorem dM_readPage_68 : decode prog_14_method_12_code 68 = .ok (.if_icmp .eq (75), 3) := by decide +kernel
theorem dM_readPage_71 : decode prog_14_method_12_code 71 = .ok (.iload 5, 2) := by decide +kernel
theorem dM_readPage_73 : decode prog_14_method_12_code 73 = .ok (.bipush (97), 2) := by decide +kernel
theorem dM_readPage_75 : decode prog_14_method_12_code 75 = .ok (.bipush (104), 2) := by decide +kernel
theorem dM_readPage_77 : decode prog_14_method_12_code 77 = .ok (.invokestatic 148, 3) := by decide +kernel
theorem dM_readPage_80 : decode prog_14_method_12_code 80 = .ok (.istore 4, 2) := by decide +kernel
theorem dM_readPage_82 : decode prog_14_method_12_code 82 = .ok (.iload 4, 2) := by decide +kernel
theorem dM_readPage_84 : decode prog_14_method_12_code 84 = .ok (.ifCond .eq (272), 3) := by decide +kernel
theorem dM_readPage_87 : decode prog_14_method_12_code 87 = .ok (.aload_n 0, 1) := by decide +kernel
theorem dM_readPage_88 : decode prog_14_method_12_code 88 = .ok (.getfield 73, 3) := by decide +kernel
theorem dM_readPage_91 : decode prog_14_method_12_code 91 = .ok (.aload_n 0, 1) := by decide +kernel
theorem dM_readPage_92 : decode prog_14_method_12_code 92 = .ok (.getfield 134, 3) := by decide +kernel
theorem dM_readPage_95 : decode prog_14_method_12_code 95 = .ok (.iconst (2), 1) := by decide +kernel
theorem dM_readPage_96 : decode prog_14_method_12_code 96 = .ok (.iload 5, 2) := by decide +kernel
theorem dM_readPage_98 : decode prog_14_method_12_code 98 = .ok (.bipush (97), 2) := by decide +kernel
theorem dM_readPage_100 : decode prog_14_method_12_code 100 = .ok (.isub, 1) := by decide +kernel
theorem dM_readPage_101 : decode prog_14_method_12_code 101 = .ok (.imul, 1) := by decide +kernel
theorem dM_readPage_102 : decode prog_14_method_12_code 102 = .ok (.iload_n 2, 1) := by decide +kernel
theorem dM_readPage_103 : decode prog_14_method_12_code 103 = .ok (.iadd, 1) := by decide +kernel
theorem dM_readPage_104 : decode prog_14_method_12_code 104 = .ok (.iastore, 1) := by decide +kernel
theorem dM_readPage_105 : decode prog_14_method_12_code 105 = .ok (.aload_n 0, 1) := by decide +kernel
theorem dM_readPage_106 : decode prog_14_method_12_code 106 = .ok (.dup, 1) := by decide +kernel
theorem dM_readPage_107 : decode prog_14_method_12_code 107 = .ok (.getfield 134, 3) := by decide +kernel
theorem dM_readPage_110 : decode prog_14_method_12_code 110 = .ok (.iconst (1), 1) := by decide +kernel
theorem dM_readPage_111 : decode prog_14_method_12_code 111 = .ok (.iadd, 1) := by decide +kernel
theorem dM_readPage_112 : decode prog_14_method_12_code 112 = .ok (.putfield 134, 3) := by decide +kernel
theorem dM_readPage_115 : decode prog_14_method_12_code 115 = .ok (.aload_n 0, 1) := by decide +kernel
theorem dM_readPage_116 : decode prog_14_method_12_code 116 = .ok (.iconst (0), 1) := by decide +kernel
theorem dM_readPage_117 : decode prog_14_method_12_code 117 = .ok (.lconst 1, 1) := by decide +kernel
theorem dM_readPage_118 : decode prog_14_method_12_code 118 = .ok (.aload_n 0, 1) := by decide +kernel
theorem dM_readPage_119 : decode prog_14_method_12_code 119 = .ok (.getfield 134, 3) := by decide +kernel
theorem dM_readPage_122 : decode prog_14_method_12_code 122 = .ok (.iconst (1), 1) := by decide +kernel
theorem dM_readPage_123 : decode prog_14_method_12_code 123 = .ok (.isub, 1) := by decide +kernel
theorem dM_readPage_124 : decode prog_14_method_12_code 124 = .ok (.lshl, 1) := by decide +kernel
theorem dM_readPage_125 : decode prog_14_method_12_code 125 = .ok (.lconst 1, 1) := by decide +kernel
theorem dM_readPage_126 : decode prog_14_method_12_code 126 = .ok (.aload_n 0, 1) := by decide +kernel
theorem dM_readPage_127 : decode prog_14_method_12_code 127 = .ok (.getfield 134, 3) := by decide +kernel
theorem dM_readPage_130 : decode prog_14_method_12_code 130 = .ok (.iconst (1), 1) := by decide +kernel
theorem dM_readPage_131 : decode prog_14_method_12_code 131 = .ok (.isub, 1) := by decide +kernel
theorem dM_readPage_132 : decode prog_14_method_12_code 132 = .ok (.lshl, 1) := by decide +kernel
theorem dM_readPage_133 : decode prog_14_method_12_code 133 = .ok (.invokevirtual 140, 3) := by decide +kernel
theorem dM_readPage_136 : decode prog_14_method_12_code 136 = .ok (.iconst (-1), 1) := by decide +kernel
theorem dM_readPage_137 : decode prog_14_method_12_code 137 = .ok (.istore_n 2, 1) := by decide +kernel
theorem dM_readPage_138 : decode prog_14_method_12_code 138 = .ok (.iconst (1), 1) := by decide +kernel
theorem dM_readPage_139 : decode prog_14_method_12_code 139 = .ok (.istore_n 1, 1) := by decide +kernel
theorem dM_readPage_140 : decode prog_14_method_12_code 140 = .ok (.goto (216), 3) := by decide +kernel
theorem dM_readPage_143 : decode prog_14_method_12_code 143 = .ok (.iload 5, 2) := by decide +kernel
theorem dM_readPage_145 : decode prog_14_method_12_code 145 = .ok (.bipush (63), 2) := by decide +kernel
theorem dM_readPage_147 : decode prog_14_method_12_code 147 = .ok (.if_icmp .eq (10), 3) := by decide +kernel
theorem dM_readPage_150 : decode prog_14_method_12_code 150 = .ok (.iload 5, 2) := by decide +kernel
theorem dM_readPage_152 : decode prog_14_method_12_code 152 = .ok (.bipush (33), 2) := by decide +kernel
theorem dM_readPage_154 : decode prog_14_method_12_code 154 = .ok (.if_icmp .ne (19), 3) := by decide +kernel
theorem dM_readPage_157 : decode prog_14_method_12_code 157 = .ok (.iload 5, 2) := by decide +kernel
theorem dM_readPage_159 : decode prog_14_method_12_code 159 = .ok (.bipush (33), 2) := by decide +kernel
theorem dM_readPage_161 : decode prog_14_method_12_code 161 = .ok (.if_icmp .ne (7), 3) := by decide +kernel
theorem dM_readPage_164 : decode prog_14_method_12_code 164 = .ok (.iconst (1), 1) := by decide +kernel
theorem dM_readPage_165 : decode prog_14_method_12_code 165 = .ok (.goto (4), 3) := by decide +kernel
theorem dM_readPage_168 : decode prog_14_method_12_code 168 = .ok (.iconst (0), 1) := by decide +kernel
theorem dM_readPage_169 : decode prog_14_method_12_code 169 = .ok (.istore_n 2, 1) := by decide +kernel
theorem dM_readPage_170 : decode prog_14_method_12_code 170 = .ok (.goto (186), 3) := by decide +kernel
theorem dM_readPage_173 : decode prog_14_method_12_code 173 = .ok (.iload 5, 2) := by decide +kernel
theorem dM_readPage_175 : decode prog_14_method_12_code 175 = .ok (.bipush (40), 2) := by decide +kernel
theorem dM_readPage_177 : decode prog_14_method_12_code 177 = .ok (.if_icmp .eq (10), 3) := by decide +kernel
theorem dM_readPage_180 : decode prog_14_method_12_code 180 = .ok (.iload 5, 2) := by decide +kernel
theorem dM_readPage_182 : decode prog_14_method_12_code 182 = .ok (.bipush (123), 2) := by decide +kernel
theorem dM_readPage_184 : decode prog_14_method_12_code 184 = .ok (.if_icmp .ne (24), 3) := by decide +kernel
theorem dM_readPage_187 : decode prog_14_method_12_code 187 = .ok (.aload_n 0, 1) := by decide +kernel
theorem dM_readPage_188 : decode prog_14_method_12_code 188 = .ok (.iload 5, 2) := by decide +kernel
theorem dM_readPage_190 : decode prog_14_method_12_code 190 = .ok (.bipush (40), 2) := by decide +kernel
theorem dM_readPage_192 : decode prog_14_method_12_code 192 = .ok (.if_icmp .ne (7), 3) := by decide +kernel
theorem dM_readPage_195 : decode prog_14_method_12_code 195 = .ok (.iconst (1), 1) := by decide +kernel
theorem dM_readPage_196 : decode prog_14_method_12_code 196 = .ok (.goto (4), 3) := by decide +kernel
theorem dM_readPage_199 : decode prog_14_method_12_code 199 = .ok (.iconst (2), 1) := by decide +kernel
theorem dM_readPage_200 : decode prog_14_method_12_code 200 = .ok (.invokevirtual 144, 3) := by decide +kernel
theorem dM_readPage_203 : decode prog_14_method_12_code 203 = .ok (.iconst (0), 1) := by decide +kernel
theorem dM_readPage_204 : decode prog_14_method_12_code 204 = .ok (.istore_n 1, 1) := by decide +kernel
theorem dM_readPage_205 : decode prog_14_method_12_code 205 = .ok (.goto (151), 3) := by decide +kernel
theorem dM_readPage_208 : decode prog_14_method_12_code 208 = .ok (.iload 5, 2) := by decide +kernel
theorem dM_readPage_210 : decode prog_14_method_12_code 210 = .ok (.bipush (48), 2) := by decide +kernel
theorem dM_readPage_212 : decode prog_14_method_12_code 212 = .ok (.if_icmp .ne (15), 3) := by decide +kernel
theorem dM_readPage_215 : decode prog_14_method_12_code 215 = .ok (.aload_n 0, 1) := by decide +kernel
theorem dM_readPage_216 : decode prog_14_method_12_code 216 = .ok (.iconst (1), 1) := by decide +kernel
theorem dM_readPage_217 : decode prog_14_method_12_code 217 = .ok (.lconst 0, 1) := by decide +kernel
theorem dM_readPage_218 : decode prog_14_method_12_code 218 = .ok (.lconst 0, 1) := by decide +kernel
theorem dM_readPage_219 : decode prog_14_method_12_code 219 = .ok (.invokevirtual 140, 3) := by decide +kernel
theorem dM_readPage_222 : decode prog_14_method_12_code 222 = .ok (.iconst (1), 1) := by decide +kernel
theorem dM_readPage_223 : decode prog_14_method_12_code 223 = .ok (.istore_n 1, 1) := by decide +kernel
theorem dM_readPage_224 : decode prog_14_method_12_code 224 = .ok (.goto (132), 3) := by decide +kernel
theorem dM_readPage_227 : decode prog_14_method_12_code 227 = .ok (.iload 5, 2) := by decide +kernel
theorem dM_readPage_229 : decode prog_14_method_12_code 229 = .ok (.bipush (124), 2) := by decide +kernel
theorem dM_readPage_231 : decode prog_14_method_12_code 231 = .ok (.if_icmp .ne (46), 3) := by decide +kernel
theorem dM_readPage_234 : decode prog_14_method_12_code 234 = .ok (.iload_n 1, 1) := by decide +kernel
theorem dM_readPage_235 : decode prog_14_method_12_code 235 = .ok (.ifCond .eq (42), 3) := by decide +kernel
theorem dM_readPage_238 : decode prog_14_method_12_code 238 = .ok (.aload_n 0, 1) := by decide +kernel
theorem dM_readPage_239 : decode prog_14_method_12_code 239 = .ok (.getfield 48, 3) := by decide +kernel
theorem dM_readPage_242 : decode prog_14_method_12_code 242 = .ok (.aload_n 0, 1) := by decide +kernel
theorem dM_readPage_243 : decode prog_14_method_12_code 243 = .ok (.getfield 124, 3) := by decide +kernel
theorem dM_readPage_246 : decode prog_14_method_12_code 246 = .ok (.iaload, 1) := by decide +kernel
theorem dM_readPage_247 : decode prog_14_method_12_code 247 = .ok (.iconst (1), 1) := by decide +kernel
theorem dM_readPage_248 : decode prog_14_method_12_code 248 = .ok (.if_icmp .ne (29), 3) := by decide +kernel
theorem dM_readPage_251 : decode prog_14_method_12_code 251 = .ok (.aload_n 0, 1) := by decide +kernel
theorem dM_readPage_252 : decode prog_14_method_12_code 252 = .ok (.invokevirtual 137, 3) := by decide +kernel
theorem dM_readPage_255 : decode prog_14_method_12_code 255 = .ok (.aload_n 0, 1) := by decide +kernel
theorem dM_readPage_256 : decode prog_14_method_12_code 256 = .ok (.getfield 51, 3) := by decide +kernel
theorem dM_readPage_259 : decode prog_14_method_12_code 259 = .ok (.aload_n 0, 1) := by decide +kernel
theorem dM_readPage_260 : decode prog_14_method_12_code 260 = .ok (.getfield 124, 3) := by decide +kernel
theorem dM_readPage_263 : decode prog_14_method_12_code 263 = .ok (.dup2, 1) := by decide +kernel
theorem dM_readPage_264 : decode prog_14_method_12_code 264 = .ok (.iaload, 1) := by decide +kernel
theorem dM_readPage_265 : decode prog_14_method_12_code 265 = .ok (.iconst (1), 1) := by decide +kernel
theorem dM_readPage_266 : decode prog_14_method_12_code 266 = .ok (.iadd, 1) := by decide +kernel
theorem dM_readPage_267 : decode prog_14_method_12_code 267 = .ok (.iastore, 1) := by decide +kernel
theorem dM_readPage_268 : decode prog_14_method_12_code 268 = .ok (.aload_n 0, 1) := by decide +kernel
theorem dM_readPage_269 : decode prog_14_method_12_code 269 = .ok (.invokevirtual 127, 3) := by decide +kernel
theorem dM_readPage_272 : decode prog_14_method_12_code 272 = .ok (.iconst (0), 1) := by decide +kernel
theorem dM_readPage_273 : decode prog_14_method_12_code 273 = .ok (.istore_n 1, 1) := by decide +kernel
theorem dM_readPage_274 : decode prog_14_method_12_code 274 = .ok (.goto (82), 3) := by decide +kernel
theorem dM_readPage_277 : decode prog_14_method_12_code 277 = .ok (.iload 5, 2) := by decide +kernel
theorem dM_readPage_279 : decode prog_14_method_12_code 279 = .ok (.bipush (41), 2) := by decide +kernel
theorem dM_readPage_281 : decode prog_14_method_12_code 281 = .ok (.if_icmp .ne (32), 3) := by decide +kernel
theorem dM_readPage_284 : decode prog_14_method_12_code 284 = .ok (.iload_n 1, 1) := by decide +kernel
theorem dM_readPage_285 : decode prog_14_method_12_code 285 = .ok (.ifCond .eq (28), 3) := by decide +kernel
theorem dM_readPage_288 : decode prog_14_method_12_code 288 = .ok (.aload_n 0, 1) := by decide +kernel
theorem dM_readPage_289 : decode prog_14_method_12_code 289 = .ok (.getfield 48, 3) := by decide +kernel
theorem dM_readPage_292 : decode prog_14_method_12_code 292 = .ok (.aload_n 0, 1) := by decide +kernel
theorem dM_readPage_293 : decode prog_14_method_12_code 293 = .ok (.getfield 124, 3) := by decide +kernel
theorem dM_readPage_296 : decode prog_14_method_12_code 296 = .ok (.iaload, 1) := by decide +kernel
theorem dM_readPage_297 : decode prog_14_method_12_code 297 = .ok (.iconst (1), 1) := by decide +kernel
theorem dM_readPage_298 : decode prog_14_method_12_code 298 = .ok (.if_icmp .ne (15), 3) := by decide +kernel
theorem dM_readPage_301 : decode prog_14_method_12_code 301 = .ok (.aload_n 0, 1) := by decide +kernel
theorem dM_readPage_302 : decode prog_14_method_12_code 302 = .ok (.getfield 51, 3) := by decide +kernel
theorem dM_readPage_305 : decode prog_14_method_12_code 305 = .ok (.aload_n 0, 1) := by decide +kernel
theorem dM_readPage_306 : decode prog_14_method_12_code 306 = .ok (.getfield 124, 3) := by decide +kernel
theorem dM_readPage_309 : decode prog_14_method_12_code 309 = .ok (.iaload, 1) := by decide +kernel
theorem dM_readPage_310 : decode prog_14_method_12_code 310 = .ok (.ifCond .gt (27), 3) := by decide +kernel
theorem dM_readPage_313 : decode prog_14_method_12_code 313 = .ok (.iload 5, 2) := by decide +kernel
theorem dM_readPage_315 : decode prog_14_method_12_code 315 = .ok (.bipush (125), 2) := by decide +kernel
theorem dM_readPage_317 : decode prog_14_method_12_code 317 = .ok (.if_icmp .ne (36), 3) := by decide +kernel
theorem dM_readPage_320 : decode prog_14_method_12_code 320 = .ok (.iload_n 1, 1) := by decide +kernel
theorem dM_readPage_321 : decode prog_14_method_12_code 321 = .ok (.ifCond .eq (32), 3) := by decide +kernel
theorem dM_readPage_324 : decode prog_14_method_12_code 324 = .ok (.aload_n 0, 1) := by decide +kernel
theorem dM_readPage_325 : decode prog_14_method_12_code 325 = .ok (.getfield 48, 3) := by decide +kernel
theorem dM_readPage_328 : decode prog_14_method_12_code 328 = .ok (.aload_n 0, 1) := by decide +kernel
theorem dM_readPage_329 : decode prog_14_method_12_code 329 = .ok (.getfield 124, 3) := by decide +kernel
theorem dM_readPage_332 : decode prog_14_method_12_code 332 = .ok (.iaload, 1) := by decide +kernel
theorem dM_readPage_333 : decode prog_14_method_12_code 333 = .ok (.iconst (2), 1) := by decide +kernel
theorem dM_readPage_334 : decode prog_14_method_12_code 334 = .ok (.if_icmp .ne (19), 3) := by decide +kernel
theorem dM_readPage_337 : decode prog_14_method_12_code 337 = .ok (.aload_n 0, 1) := by decide +kernel
theorem dM_readPage_338 : decode prog_14_method_12_code 338 = .ok (.aload_n 0, 1) := by decide +kernel
theorem dM_readPage_339 : decode prog_14_method_12_code 339 = .ok (.getfield 48, 3) := by decide +kernel
theorem dM_readPage_342 : decode prog_14_method_12_code 342 = .ok (.aload_n 0, 1) := by decide +kernel
theorem dM_readPage_343 : decode prog_14_method_12_code 343 = .ok (.getfield 124, 3) := by decide +kernel
theorem dM_readPage_346 : decode prog_14_method_12_code 346 = .ok (.iaload, 1) := by decide +kernel
theorem dM_readPage_347 : decode prog_14_method_12_code 347 = .ok (.invokevirtual 152, 3) := by decide +kernel
theorem dM_readPage_350 : decode prog_14_method_12_code 350 = .ok (.goto (6), 3) := by decide +kernel
theorem dM_readPage_353 : decode prog_14_method_12_code 353 = .ok (.iconst (0), 1) := by decide +kernel
theorem dM_readPage_354 : decode prog_14_method_12_code 354 = .ok (.istore 4, 2) := by decide +kernel
theorem dM_readPage_356 : decode prog_14_method_12_code 356 = .ok (.iload_n 3, 1) := by decide +kernel
theorem dM_readPage_357 : decode prog_14_method_12_code 357 = .ok (.iload 4, 2) := by decide +kernel
theorem dM_readPage_359 : decode prog_14_method_12_code 359 = .ok (.ifCond .eq (7), 3) := by decide +kernel
theorem dM_readPage_362 : decode prog_14_method_12_code 362 = .ok (.iconst (1), 1) := by decide +kernel
theorem dM_readPage_363 : decode prog_14_method_12_code 363 = .ok (.goto (4), 3) := by decide +kernel
theorem dM_readPage_366 : decode prog_14_method_12_code 366 = .ok (.iconst (0), 1) := by decide +kernel
theorem dM_readPage_367 : decode prog_14_method_12_code 367 = .ok (.iadd, 1) := by decide +kernel
theorem dM_readPage_368 : decode prog_14_method_12_code 368 = .ok (.istore_n 3, 1) := by decide +kernel
theorem dM_readPage_369 : decode prog_14_method_12_code 369 = .ok (.goto (-324), 3) := by decide +kernel
theorem dM_readPage_372 : decode prog_14_method_12_code 372 = .ok (.aload_n 0, 1) := by decide +kernel
theorem dM_readPage_373 : decode prog_14_method_12_code 373 = .ok (.iload_n 3, 1) := by decide +kernel
theorem dM_readPage_374 : decode prog_14_method_12_code 374 = .ok (.putfield 155, 3) := by decide +kernel
theorem dM_readPage_377 : decode prog_14_method_12_code 377 = .ok (.aload_n 0, 1) := by decide +kernel
theorem dM_readPage_378 : decode prog_14_method_12_code 378 = .ok (.iload_n 3, 1) := by decide +kernel
theorem dM_readPage_379 : decode prog_14_method_12_code 379 = .ok (.aload_n 0, 1) := by decide +kernel
theorem dM_readPage_380 : decode prog_14_method_12_code 380 = .ok (.getfield 120, 3) := by decide +kernel
theorem dM_readPage_383 : decode prog_14_method_12_code 383 = .ok (.if_icmp .ne (23), 3) := by decide +kernel
theorem dM_readPage_386 : decode prog_14_method_12_code 386 = .ok (.aload_n 0, 1) := by decide +kernel
theorem dM_readPage_387 : decode prog_14_method_12_code 387 = .ok (.getfield 124, 3) := by decide +kernel
theorem dM_readPage_390 : decode prog_14_method_12_code 390 = .ok (.ifCond .ne (16), 3) := by decide +kernel
theorem dM_readPage_393 : decode prog_14_method_12_code 393 = .ok (.iload_n 1, 1) := by decide +kernel
theorem dM_readPage_394 : decode prog_14_method_12_code 394 = .ok (.ifCond .eq (12), 3) := by decide +kernel
theorem dM_readPage_397 : decode prog_14_method_12_code 397 = .ok (.iload_n 2, 1) := by decide +kernel
theorem dM_readPage_398 : decode prog_14_method_12_code 398 = .ok (.iconst (-1), 1) := by decide +kernel
theorem dM_readPage_399 : decode prog_14_method_12_code 399 = .ok (.if_icmp .ne (7), 3) := by decide +kernel
theorem dM_readPage_402 : decode prog_14_method_12_code 402 = .ok (.iconst (1), 1) := by decide +kernel
theorem dM_readPage_403 : decode prog_14_method_12_code 403 = .ok (.goto (4), 3) := by decide +kernel
theorem dM_readPage_406 : decode prog_14_method_12_code 406 = .ok (.iconst (0), 1) := by decide +kernel
theorem dM_readPage_407 : decode prog_14_method_12_code 407 = .ok (.putfield 158, 3) := by decide +kernel
theorem dM_readPage_410 : decode prog_14_method_12_code 410 = .ok (.return_, 1) := by decide +kernel
theorem dM_good_0 : decode prog_14_method_13_code 0 = .ok (.aload_n 0, 1) := by decide +kernel
theorem dM_good_1 : decode prog_14_method_13_code 1 = .ok (.invokevirtual 162, 3) := by decide +kernel
theorem dM_good_4 : decode prog_14_method_13_code 4 = .ok (.aload_n 0, 1) := by decide +kernel
theorem dM_good_5 : decode prog_14_method_13_code 5 = .ok (.getfield 155, 3) := by decide +kernel
theorem dM_good_8 : decode prog_14_method_13_code 8 = .ok (.ireturn, 1) := by decide +kernel
theorem dPa_isWhole_0 : decode prog_8_method_5_code 0 = .ok (.aload_n 0, 1) := by decide +kernel
theorem dPa_isWhole_1 : decode prog_8_method_5_code 1 = .ok (.getfield 28, 3) := by decide +kernel
theorem dPa_isWhole_4 : decode prog_8_method_5_code 4 = .ok (.iconst (-1), 1) := by decide +kernel
theorem dPa_isWhole_5 : decode prog_8_method_5_code 5 = .ok (.if_icmp .ne (26), 3) := by decide +kernel
theorem dPa_isWhole_8 : decode prog_8_method_5_code 8 = .ok (.aload_n 0, 1) := by decide +kernel
theorem dPa_isWhole_9 : decode prog_8_method_5_code 9 = .ok (.getfield 36, 3) := by decide +kernel
theorem dPa_isWhole_12 : decode prog_8_method_5_code 12 = .ok (.ifCond .ne (19), 3) := by decide +kernel
theorem dPa_isWhole_15 : decode prog_8_method_5_code 15 = .ok (.aload_n 0, 1) := by decide +kernel
theorem dPa_isWhole_16 : decode prog_8_method_5_code 16 = .ok (.getfield 17, 3) := by decide +kernel
theorem dPa_isWhole_19 : decode prog_8_method_5_code 19 = .ok (.iconst (0), 1) := by decide +kernel
theorem dPa_isWhole_20 : decode prog_8_method_5_code 20 = .ok (.aaload, 1) := by decide +kernel
theorem dPa_isWhole_21 : decode prog_8_method_5_code 21 = .ok (.getfield 50, 3) := by decide +kernel
theorem dPa_isWhole_24 : decode prog_8_method_5_code 24 = .ok (.ifCond .eq (7), 3) := by decide +kernel
theorem dPa_isWhole_27 : decode prog_8_method_5_code 27 = .ok (.iconst (1), 1) := by decide +kernel
theorem dPa_isWhole_28 : decode prog_8_method_5_code 28 = .ok (.goto (4), 3) := by decide +kernel
theorem dPa_isWhole_31 : decode prog_8_method_5_code 31 = .ok (.iconst (0), 1) := by decide +kernel
theorem dPa_isWhole_32 : decode prog_8_method_5_code 32 = .ok (.ireturn, 1) := by decide +kernel
theorem dPa_nextSteps_0 : decode prog_8_method_13_code 0 = .ok (.iload_n 1, 1) := by decide +kernel
theorem dPa_nextSteps_1 : decode prog_8_method_13_code 1 = .ok (.ifCond .ne (15), 3) := by decide +kernel
theorem dPa_nextSteps_4 : decode prog_8_method_13_code 4 = .ok (.aload_n 0, 1) := by decide +kernel
theorem dPa_nextSteps_5 : decode prog_8_method_13_code 5 = .ok (.getfield 17, 3) := by decide +kernel
theorem dPa_nextSteps_8 : decode prog_8_method_13_code 8 = .ok (.iconst (0), 1) := by decide +kernel
theorem dPa_nextSteps_9 : decode prog_8_method_13_code 9 = .ok (.aaload, 1) := by decide +kernel
theorem dPa_nextSteps_10 : decode prog_8_method_13_code 10 = .ok (.getfield 90, 3) := by decide +kernel
theorem dPa_nextSteps_13 : decode prog_8_method_13_code 13 = .ok (.goto (9), 3) := by decide +kernel
theorem dPa_nextSteps_16 : decode prog_8_method_13_code 16 = .ok (.aload_n 0, 1) := by decide +kernel
theorem dPa_nextSteps_17 : decode prog_8_method_13_code 17 = .ok (.getfield 24, 3) := by decide +kernel
theorem dPa_nextSteps_20 : decode prog_8_method_13_code 20 = .ok (.iload_n 1, 1) := by decide +kernel
theorem dPa_nextSteps_21 : decode prog_8_method_13_code 21 = .ok (.laload, 1) := by decide +kernel
theorem dPa_nextSteps_22 : decode prog_8_method_13_code 22 = .ok (.lreturn, 1) := by decide +kernel
theorem dC_hasBit_0 : decode prog_1_method_53_code 0 = .ok (.iload_n 0, 1) := by decide +kernel
theorem dC_hasBit_1 : decode prog_1_method_53_code 1 = .ok (.iload_n 1, 1) := by decide +kernel
theorem dC_hasBit_2 : decode prog_1_method_53_code 2 = .ok (.ishr, 1) := by decide +kernel
theorem dC_hasBit_3 : decode prog_1_method_53_code 3 = .ok (.iconst (1), 1) := by decide +kernel
theorem dC_hasBit_4 : decode prog_1_method_53_code 4 = .ok (.iand, 1) := by decide +kernel
theorem dC_hasBit_5 : decode prog_1_method_53_code 5 = .ok (.ifCond .eq (7), 3) := by decide +kernel
theorem dC_hasBit_8 : decode prog_1_method_53_code 8 = .ok (.iconst (1), 1) := by decide +kernel
theorem dC_hasBit_9 : decode prog_1_method_53_code 9 = .ok (.goto (4), 3) := by decide +kernel
theorem dC_hasBit_12 : decode prog_1_method_53_code 12 = .ok (.iconst (0), 1) := by decide +kernel
theorem dC_hasBit_13 : decode prog_1_method_53_code 13 = .ok (.ireturn, 1) := by decide +kernel
theorem dPa_isTwofold_0 : decode prog_8_method_15_code 0 = .ok (.iconst (0), 1) := by decide +kernel
theorem dPa_isTwofold_1 : decode prog_8_method_15_code 1 = .ok (.istore_n 1, 1) := by decide +kernel
theorem dPa_isTwofold_2 : decode prog_8_method_15_code 2 = .ok (.iload_n 1, 1) := by decide +kernel
theorem dPa_isTwofold_3 : decode prog_8_method_15_code 3 = .ok (.aload_n 0, 1) := by decide +kernel
theorem dPa_isTwofold_4 : decode prog_8_method_15_code 4 = .ok (.getfield 39, 3) := by decide +kernel
theorem dPa_isTwofold_7 : decode prog_8_method_15_code 7 = .ok (.if_icmp .gt (67), 3) := by decide +kernel
theorem dPa_isTwofold_10 : decode prog_8_method_15_code 10 = .ok (.iconst (0), 1) := by decide +kernel
theorem dPa_isTwofold_11 : decode prog_8_method_15_code 11 = .ok (.istore_n 2, 1) := by decide +kernel
theorem dPa_isTwofold_12 : decode prog_8_method_15_code 12 = .ok (.iconst (1), 1) := by decide +kernel
theorem dPa_isTwofold_13 : decode prog_8_method_15_code 13 = .ok (.istore_n 3, 1) := by decide +kernel
theorem dPa_isTwofold_14 : decode prog_8_method_15_code 14 = .ok (.iload_n 3, 1) := by decide +kernel
theorem dPa_isTwofold_15 : decode prog_8_method_15_code 15 = .ok (.aload_n 0, 1) := by decide +kernel
theorem dPa_isTwofold_16 : decode prog_8_method_15_code 16 = .ok (.getfield 39, 3) := by decide +kernel
theorem dPa_isTwofold_19 : decode prog_8_method_15_code 19 = .ok (.if_icmp .gt (49), 3) := by decide +kernel
theorem dPa_isTwofold_22 : decode prog_8_method_15_code 22 = .ok (.aload_n 0, 1) := by decide +kernel
theorem dPa_isTwofold_23 : decode prog_8_method_15_code 23 = .ok (.iload_n 1, 1) := by decide +kernel
theorem dPa_isTwofold_24 : decode prog_8_method_15_code 24 = .ok (.invokevirtual 109, 3) := by decide +kernel
theorem dPa_isTwofold_27 : decode prog_8_method_15_code 27 = .ok (.iload_n 3, 1) := by decide +kernel
theorem dPa_isTwofold_28 : decode prog_8_method_15_code 28 = .ok (.lshr, 1) := by decide +kernel
theorem dPa_isTwofold_29 : decode prog_8_method_15_code 29 = .ok (.lconst 1, 1) := by decide +kernel
theorem dPa_isTwofold_30 : decode prog_8_method_15_code 30 = .ok (.land, 1) := by decide +kernel
theorem dPa_isTwofold_31 : decode prog_8_method_15_code 31 = .ok (.lconst 0, 1) := by decide +kernel
theorem dPa_isTwofold_32 : decode prog_8_method_15_code 32 = .ok (.lcmp, 1) := by decide +kernel
theorem dPa_isTwofold_33 : decode prog_8_method_15_code 33 = .ok (.ifCond .eq (29), 3) := by decide +kernel
theorem dPa_isTwofold_36 : decode prog_8_method_15_code 36 = .ok (.iload_n 2, 1) := by decide +kernel
theorem dPa_isTwofold_37 : decode prog_8_method_15_code 37 = .ok (.aload_n 0, 1) := by decide +kernel
theorem dPa_isTwofold_38 : decode prog_8_method_15_code 38 = .ok (.getfield 21, 3) := by decide +kernel
theorem dPa_isTwofold_41 : decode prog_8_method_15_code 41 = .ok (.iload_n 3, 1) := by decide +kernel
theorem dPa_isTwofold_42 : decode prog_8_method_15_code 42 = .ok (.iaload, 1) := by decide +kernel
theorem dPa_isTwofold_43 : decode prog_8_method_15_code 43 = .ok (.invokestatic 113, 3) := by decide +kernel
theorem dPa_isTwofold_46 : decode prog_8_method_15_code 46 = .ok (.ifCond .eq (5), 3) := by decide +kernel
theorem dPa_isTwofold_49 : decode prog_8_method_15_code 49 = .ok (.iconst (1), 1) := by decide +kernel
theorem dPa_isTwofold_50 : decode prog_8_method_15_code 50 = .ok (.ireturn, 1) := by decide +kernel
theorem dPa_isTwofold_51 : decode prog_8_method_15_code 51 = .ok (.iload_n 2, 1) := by decide +kernel
theorem dPa_isTwofold_52 : decode prog_8_method_15_code 52 = .ok (.iconst (1), 1) := by decide +kernel
theorem dPa_isTwofold_53 : decode prog_8_method_15_code 53 = .ok (.aload_n 0, 1) := by decide +kernel
theorem dPa_isTwofold_54 : decode prog_8_method_15_code 54 = .ok (.getfield 21, 3) := by decide +kernel
theorem dPa_isTwofold_57 : decode prog_8_method_15_code 57 = .ok (.iload_n 3, 1) := by decide +kernel
theorem dPa_isTwofold_58 : decode prog_8_method_15_code 58 = .ok (.iaload, 1) := by decide +kernel
theorem dPa_isTwofold_59 : decode prog_8_method_15_code 59 = .ok (.ishl, 1) := by decide +kernel
theorem dPa_isTwofold_60 : decode prog_8_method_15_code 60 = .ok (.ior, 1) := by decide +kernel
theorem dPa_isTwofold_61 : decode prog_8_method_15_code 61 = .ok (.istore_n 2, 1) := by decide +kernel
theorem dPa_isTwofold_62 : decode prog_8_method_15_code 62 = .ok (.iinc 3 (1), 3) := by decide +kernel
theorem dPa_isTwofold_65 : decode prog_8_method_15_code 65 = .ok (.goto (-51), 3) := by decide +kernel
theorem dPa_isTwofold_68 : decode prog_8_method_15_code 68 = .ok (.iinc 1 (1), 3) := by decide +kernel
theorem dPa_isTwofold_71 : decode prog_8_method_15_code 71 = .ok (.goto (-69), 3) := by decide +kernel
theorem dPa_isTwofold_74 : decode prog_8_method_15_code 74 = .ok (.iconst (0), 1) := by decide +kernel
theorem dPa_isTwofold_75 : decode prog_8_method_15_code 75 = .ok (.ireturn, 1) := by decide +kernel
theorem djA_fill_I_0 : decode prog_19_method_103_code 0 = .ok (.iconst (0), 1) := by decide +kernel
theorem djA_fill_I_1 : decode prog_19_method_103_code 1 = .ok (.istore_n 2, 1) := by decide +kernel
theorem djA_fill_I_2 : decode prog_19_method_103_code 2 = .ok (.aload_n 0, 1) := by decide +kernel
theorem djA_fill_I_3 : decode prog_19_method_103_code 3 = .ok (.arraylength, 1) := by decide +kernel
theorem djA_fill_I_4 : decode prog_19_method_103_code 4 = .ok (.istore_n 3, 1) := by decide +kernel
theorem djA_fill_I_5 : decode prog_19_method_103_code 5 = .ok (.iload_n 2, 1) := by decide +kernel
theorem djA_fill_I_6 : decode prog_19_method_103_code 6 = .ok (.iload_n 3, 1) := by decide +kernel
theorem djA_fill_I_7 : decode prog_19_method_103_code 7 = .ok (.if_icmp .ge (13), 3) := by decide +kernel
theorem djA_fill_I_10 : decode prog_19_method_103_code 10 = .ok (.aload_n 0, 1) := by decide +kernel
theorem djA_fill_I_11 : decode prog_19_method_103_code 11 = .ok (.iload_n 2, 1) := by decide +kernel
theorem djA_fill_I_12 : decode prog_19_method_103_code 12 = .ok (.iload_n 1, 1) := by decide +kernel
theorem djA_fill_I_13 : decode prog_19_method_103_code 13 = .ok (.iastore, 1) := by decide +kernel
theorem djA_fill_I_14 : decode prog_19_method_103_code 14 = .ok (.iinc 2 (1), 3) := by decide +kernel
theorem djA_fill_I_17 : decode prog_19_method_103_code 17 = .ok (.goto (-12), 3) := by decide +kernel
theorem djA_fill_I_20 : decode prog_19_method_103_code 20 = .ok (.return_, 1) := by decide +kernel
theorem dPa_mayStop_0 : decode prog_8_method_14_code 0 = .ok (.iload_n 1, 1) := by decide +kernel
theorem dPa_mayStop_1 : decode prog_8_method_14_code 1 = .ok (.ifCond .ne (15), 3) := by decide +kernel
theorem dPa_mayStop_4 : decode prog_8_method_14_code 4 = .ok (.aload_n 0, 1) := by decide +kernel
theorem dPa_mayStop_5 : decode prog_8_method_14_code 5 = .ok (.getfield 17, 3) := by decide +kernel
theorem dPa_mayStop_8 : decode prog_8_method_14_code 8 = .ok (.iconst (0), 1) := by decide +kernel
theorem dPa_mayStop_9 : decode prog_8_method_14_code 9 = .ok (.aaload, 1) := by decide +kernel
theorem dPa_mayStop_10 : decode prog_8_method_14_code 10 = .ok (.getfield 106, 3) := by decide +kernel
theorem dPa_mayStop_13 : decode prog_8_method_14_code 13 = .ok (.goto (26), 3) := by decide +kernel
theorem dPa_mayStop_16 : decode prog_8_method_14_code 16 = .ok (.aload_n 0, 1) := by decide +kernel
theorem dPa_mayStop_17 : decode prog_8_method_14_code 17 = .ok (.getfield 17, 3) := by decide +kernel
theorem dPa_mayStop_20 : decode prog_8_method_14_code 20 = .ok (.iconst (0), 1) := by decide +kernel
theorem dPa_mayStop_21 : decode prog_8_method_14_code 21 = .ok (.aaload, 1) := by decide +kernel
theorem dPa_mayStop_22 : decode prog_8_method_14_code 22 = .ok (.getfield 86, 3) := by decide +kernel
theorem dPa_mayStop_25 : decode prog_8_method_14_code 25 = .ok (.iload_n 1, 1) := by decide +kernel
theorem dPa_mayStop_26 : decode prog_8_method_14_code 26 = .ok (.lshr, 1) := by decide +kernel
theorem dPa_mayStop_27 : decode prog_8_method_14_code 27 = .ok (.lconst 1, 1) := by decide +kernel
theorem dPa_mayStop_28 : decode prog_8_method_14_code 28 = .ok (.land, 1) := by decide +kernel
theorem dPa_mayStop_29 : decode prog_8_method_14_code 29 = .ok (.lconst 0, 1) := by decide +kernel
theorem dPa_mayStop_30 : decode prog_8_method_14_code 30 = .ok (.lcmp, 1) := by decide +kernel
theorem dPa_mayStop_31 : decode prog_8_method_14_code 31 = .ok (.ifCond .eq (7), 3) := by decide +kernel
theorem dPa_mayStop_34 : decode prog_8_method_14_code 34 = .ok (.iconst (1), 1) := by decide +kernel
theorem dPa_mayStop_35 : decode prog_8_method_14_code 35 = .ok (.goto (4), 3) := by decide +kernel
theorem dPa_mayStop_38 : decode prog_8_method_14_code 38 = .ok (.iconst (0), 1) := by decide +kernel
theorem dPa_mayStop_39 : decode prog_8_method_14_code 39 = .ok (.ireturn, 1) := by decide +kernel
theorem dTa_addStep_0 : decode prog_10_method_2_code 0 = .ok (.aload_n 0, 1) := by decide +kernel
theorem dTa_addStep_1 : decode prog_10_method_2_code 1 = .ok (.getfield 27, 3) := by decide +kernel
theorem dTa_addStep_4 : decode prog_10_method_2_code 4 = .ok (.iload_n 1, 1) := by decide +kernel
theorem dTa_addStep_5 : decode prog_10_method_2_code 5 = .ok (.bipush (16), 2) := by decide +kernel
theorem dTa_addStep_7 : decode prog_10_method_2_code 7 = .ok (.imul, 1) := by decide +kernel
theorem dTa_addStep_8 : decode prog_10_method_2_code 8 = .ok (.iload_n 2, 1) := by decide +kernel
theorem dTa_addStep_9 : decode prog_10_method_2_code 9 = .ok (.iadd, 1) := by decide +kernel
theorem dTa_addStep_10 : decode prog_10_method_2_code 10 = .ok (.iload_n 3, 1) := by decide +kernel
theorem dTa_addStep_11 : decode prog_10_method_2_code 11 = .ok (.iastore, 1) := by decide +kernel
theorem dTa_addStep_12 : decode prog_10_method_2_code 12 = .ok (.iload_n 2, 1) := by decide +kernel
theorem dTa_addStep_13 : decode prog_10_method_2_code 13 = .ok (.bipush (8), 2) := by decide +kernel
theorem dTa_addStep_15 : decode prog_10_method_2_code 15 = .ok (.if_icmp .ge (18), 3) := by decide +kernel
theorem dTa_addStep_18 : decode prog_10_method_2_code 18 = .ok (.aload_n 0, 1) := by decide +kernel
theorem dTa_addStep_19 : decode prog_10_method_2_code 19 = .ok (.getfield 31, 3) := by decide +kernel
theorem dTa_addStep_22 : decode prog_10_method_2_code 22 = .ok (.iload_n 1, 1) := by decide +kernel
theorem dTa_addStep_23 : decode prog_10_method_2_code 23 = .ok (.dup2, 1) := by decide +kernel
theorem dTa_addStep_24 : decode prog_10_method_2_code 24 = .ok (.iaload, 1) := by decide +kernel
theorem dTa_addStep_25 : decode prog_10_method_2_code 25 = .ok (.iconst (1), 1) := by decide +kernel
theorem dTa_addStep_26 : decode prog_10_method_2_code 26 = .ok (.iload_n 2, 1) := by decide +kernel
theorem dTa_addStep_27 : decode prog_10_method_2_code 27 = .ok (.ishl, 1) := by decide +kernel
theorem dTa_addStep_28 : decode prog_10_method_2_code 28 = .ok (.ior, 1) := by decide +kernel
theorem dTa_addStep_29 : decode prog_10_method_2_code 29 = .ok (.iastore, 1) := by decide +kernel
theorem dTa_addStep_30 : decode prog_10_method_2_code 30 = .ok (.goto (18), 3) := by decide +kernel
theorem dTa_addStep_33 : decode prog_10_method_2_code 33 = .ok (.aload_n 0, 1) := by decide +kernel
theorem dTa_addStep_34 : decode prog_10_method_2_code 34 = .ok (.getfield 34, 3) := by decide +kernel
theorem dTa_addStep_37 : decode prog_10_method_2_code 37 = .ok (.iload_n 1, 1) := by decide +kernel
theorem dTa_addStep_38 : decode prog_10_method_2_code 38 = .ok (.dup2, 1) := by decide +kernel
theorem dTa_addStep_39 : decode prog_10_method_2_code 39 = .ok (.iaload, 1) := by decide +kernel
theorem dTa_addStep_40 : decode prog_10_method_2_code 40 = .ok (.iconst (1), 1) := by decide +kernel
theorem dTa_addStep_41 : decode prog_10_method_2_code 41 = .ok (.iload_n 2, 1) := by decide +kernel
theorem dTa_addStep_42 : decode prog_10_method_2_code 42 = .ok (.bipush (8), 2) := by decide +kernel
theorem dTa_addStep_44 : decode prog_10_method_2_code 44 = .ok (.isub, 1) := by decide +kernel
theorem dTa_addStep_45 : decode prog_10_method_2_code 45 = .ok (.ishl, 1) := by decide +kernel
theorem dTa_addStep_46 : decode prog_10_method_2_code 46 = .ok (.ior, 1) := by decide +kernel
theorem dTa_addStep_47 : decode prog_10_method_2_code 47 = .ok (.iastore, 1) := by decide +kernel
theorem dTa_addStep_48 : decode prog_10_method_2_code 48 = .ok (.return_, 1) := by decide +kernel
theorem dTa_init_0 : decode prog_10_method_1_code 0 = .ok (.aload_n 0, 1) := by decide +kernel
theorem dTa_init_1 : decode prog_10_method_1_code 1 = .ok (.invokespecial 3, 3) := by decide +kernel
theorem dTa_init_4 : decode prog_10_method_1_code 4 = .ok (.aload_n 0, 1) := by decide +kernel
theorem dTa_init_5 : decode prog_10_method_1_code 5 = .ok (.iconst (0), 1) := by decide +kernel
theorem dTa_init_6 : decode prog_10_method_1_code 6 = .ok (.bipush (24), 2) := by decide +kernel
theorem dTa_init_8 : decode prog_10_method_1_code 8 = .ok (.aload_n 1, 1) := by decide +kernel
theorem dTa_init_9 : decode prog_10_method_1_code 9 = .ok (.getfield 9, 3) := by decide +kernel
theorem dTa_init_12 : decode prog_10_method_1_code 12 = .ok (.invokestatic 15, 3) := by decide +kernel
theorem dTa_init_15 : decode prog_10_method_1_code 15 = .ok (.invokestatic 21, 3) := by decide +kernel
theorem dTa_init_18 : decode prog_10_method_1_code 18 = .ok (.putfield 24, 3) := by decide +kernel
theorem dTa_init_21 : decode prog_10_method_1_code 21 = .ok (.aload_n 0, 1) := by decide +kernel
theorem dTa_init_22 : decode prog_10_method_1_code 22 = .ok (.aload_n 0, 1) := by decide +kernel
theorem dTa_init_23 : decode prog_10_method_1_code 23 = .ok (.getfield 24, 3) := by decide +kernel
theorem dTa_init_26 : decode prog_10_method_1_code 26 = .ok (.iconst (1), 1) := by decide +kernel
theorem dTa_init_27 : decode prog_10_method_1_code 27 = .ok (.iadd, 1) := by decide +kernel
theorem dTa_init_28 : decode prog_10_method_1_code 28 = .ok (.bipush (16), 2) := by decide +kernel
theorem dTa_init_30 : decode prog_10_method_1_code 30 = .ok (.imul, 1) := by decide +kernel
theorem dTa_init_31 : decode prog_10_method_1_code 31 = .ok (.newarray .int, 2) := by decide +kernel
theorem dTa_init_33 : decode prog_10_method_1_code 33 = .ok (.putfield 27, 3) := by decide +kernel
theorem dTa_init_36 : decode prog_10_method_1_code 36 = .ok (.aload_n 0, 1) := by decide +kernel
theorem dTa_init_37 : decode prog_10_method_1_code 37 = .ok (.aload_n 0, 1) := by decide +kernel
theorem dTa_init_38 : decode prog_10_method_1_code 38 = .ok (.getfield 24, 3) := by decide +kernel
theorem dTa_init_41 : decode prog_10_method_1_code 41 = .ok (.iconst (1), 1) := by decide +kernel
theorem dTa_init_42 : decode prog_10_method_1_code 42 = .ok (.iadd, 1) := by decide +kernel
theorem dTa_init_43 : decode prog_10_method_1_code 43 = .ok (.newarray .int, 2) := by decide +kernel
theorem dTa_init_45 : decode prog_10_method_1_code 45 = .ok (.putfield 31, 3) := by decide +kernel
theorem dTa_init_48 : decode prog_10_method_1_code 48 = .ok (.aload_n 0, 1) := by decide +kernel
theorem dTa_init_49 : decode prog_10_method_1_code 49 = .ok (.aload_n 0, 1) := by decide +kernel
theorem dTa_init_50 : decode prog_10_method_1_code 50 = .ok (.getfield 24, 3) := by decide +kernel
theorem dTa_init_53 : decode prog_10_method_1_code 53 = .ok (.iconst (1), 1) := by decide +kernel
theorem dTa_init_54 : decode prog_10_method_1_code 54 = .ok (.iadd, 1) := by decide +kernel
theorem dTa_init_55 : decode prog_10_method_1_code 55 = .ok (.newarray .int, 2) := by decide +kernel
theorem dTa_init_57 : decode prog_10_method_1_code 57 = .ok (.putfield 34, 3) := by decide +kernel
theorem dTa_init_60 : decode prog_10_method_1_code 60 = .ok (.aload_n 0, 1) := by decide +kernel
theorem dTa_init_61 : decode prog_10_method_1_code 61 = .ok (.getfield 27, 3) := by decide +kernel
theorem dTa_init_64 : decode prog_10_method_1_code 64 = .ok (.iconst (-1), 1) := by decide +kernel
theorem dTa_init_65 : decode prog_10_method_1_code 65 = .ok (.invokestatic 37, 3) := by decide +kernel
theorem dTa_init_68 : decode prog_10_method_1_code 68 = .ok (.iconst (0), 1) := by decide +kernel
theorem dTa_init_69 : decode prog_10_method_1_code 69 = .ok (.istore_n 2, 1) := by decide +kernel
theorem dTa_init_70 : decode prog_10_method_1_code 70 = .ok (.iload_n 2, 1) := by decide +kernel
theorem dTa_init_71 : decode prog_10_method_1_code 71 = .ok (.aload_n 0, 1) := by decide +kernel
theorem dTa_init_72 : decode prog_10_method_1_code 72 = .ok (.getfield 24, 3) := by decide +kernel
theorem dTa_init_75 : decode prog_10_method_1_code 75 = .ok (.if_icmp .gt (82), 3) := by decide +kernel
theorem dTa_init_78 : decode prog_10_method_1_code 78 = .ok (.aload_n 0, 1) := by decide +kernel
theorem dTa_init_79 : decode prog_10_method_1_code 79 = .ok (.dup, 1) := by decide +kernel
theorem dTa_init_80 : decode prog_10_method_1_code 80 = .ok (.getfield 43, 3) := by decide +kernel
theorem dTa_init_83 : decode prog_10_method_1_code 83 = .ok (.aload_n 1, 1) := by decide +kernel
theorem dTa_init_84 : decode prog_10_method_1_code 84 = .ok (.iload_n 2, 1) := by decide +kernel
theorem dTa_init_85 : decode prog_10_method_1_code 85 = .ok (.invokevirtual 46, 3) := by decide +kernel
theorem dTa_init_88 : decode prog_10_method_1_code 88 = .ok (.ifCond .eq (9), 3) := by decide +kernel
theorem dTa_init_91 : decode prog_10_method_1_code 91 = .ok (.iconst (1), 1) := by decide +kernel
theorem dTa_init_92 : decode prog_10_method_1_code 92 = .ok (.iload_n 2, 1) := by decide +kernel
theorem dTa_init_93 : decode prog_10_method_1_code 93 = .ok (.ishl, 1) := by decide +kernel
theorem dTa_init_94 : decode prog_10_method_1_code 94 = .ok (.goto (4), 3) := by decide +kernel
theorem dTa_init_97 : decode prog_10_method_1_code 97 = .ok (.iconst (0), 1) := by decide +kernel
theorem dTa_init_98 : decode prog_10_method_1_code 98 = .ok (.ior, 1) := by decide +kernel
theorem dTa_init_99 : decode prog_10_method_1_code 99 = .ok (.putfield 43, 3) := by decide +kernel
theorem dTa_init_102 : decode prog_10_method_1_code 102 = .ok (.aload_n 1, 1) := by decide +kernel
theorem dTa_init_103 : decode prog_10_method_1_code 103 = .ok (.iload_n 2, 1) := by decide +kernel
theorem dTa_init_104 : decode prog_10_method_1_code 104 = .ok (.invokevirtual 50, 3) := by decide +kernel
theorem dTa_init_107 : decode prog_10_method_1_code 107 = .ok (.lstore_n 3, 1) := by decide +kernel
theorem dTa_init_108 : decode prog_10_method_1_code 108 = .ok (.iconst (1), 1) := by decide +kernel
theorem dTa_init_109 : decode prog_10_method_1_code 109 = .ok (.istore 5, 2) := by decide +kernel
theorem dTa_init_111 : decode prog_10_method_1_code 111 = .ok (.iload 5, 2) := by decide +kernel
theorem dTa_init_113 : decode prog_10_method_1_code 113 = .ok (.aload_n 0, 1) := by decide +kernel
theorem dTa_init_114 : decode prog_10_method_1_code 114 = .ok (.getfield 24, 3) := by decide +kernel
theorem dTa_init_117 : decode prog_10_method_1_code 117 = .ok (.if_icmp .gt (34), 3) := by decide +kernel
theorem dTa_init_120 : decode prog_10_method_1_code 120 = .ok (.lload_n 3, 1) := by decide +kernel
theorem dTa_init_121 : decode prog_10_method_1_code 121 = .ok (.iload 5, 2) := by decide +kernel
theorem dTa_init_123 : decode prog_10_method_1_code 123 = .ok (.lshr, 1) := by decide +kernel
theorem dTa_init_124 : decode prog_10_method_1_code 124 = .ok (.lconst 1, 1) := by decide +kernel
theorem dTa_init_125 : decode prog_10_method_1_code 125 = .ok (.land, 1) := by decide +kernel
theorem dTa_init_126 : decode prog_10_method_1_code 126 = .ok (.lconst 0, 1) := by decide +kernel
theorem dTa_init_127 : decode prog_10_method_1_code 127 = .ok (.lcmp, 1) := by decide +kernel
theorem dTa_init_128 : decode prog_10_method_1_code 128 = .ok (.ifCond .eq (17), 3) := by decide +kernel
theorem dTa_init_131 : decode prog_10_method_1_code 131 = .ok (.aload_n 0, 1) := by decide +kernel
theorem dTa_init_132 : decode prog_10_method_1_code 132 = .ok (.iload_n 2, 1) := by decide +kernel
theorem dTa_init_133 : decode prog_10_method_1_code 133 = .ok (.aload_n 1, 1) := by decide +kernel
theorem dTa_init_134 : decode prog_10_method_1_code 134 = .ok (.getfield 54, 3) := by decide +kernel
theorem dTa_init_137 : decode prog_10_method_1_code 137 = .ok (.iload 5, 2) := by decide +kernel
theorem dTa_init_139 : decode prog_10_method_1_code 139 = .ok (.iaload, 1) := by decide +kernel
theorem dTa_init_140 : decode prog_10_method_1_code 140 = .ok (.iload 5, 2) := by decide +kernel
theorem dTa_init_142 : decode prog_10_method_1_code 142 = .ok (.invokevirtual 57, 3) := by decide +kernel
theorem dTa_init_145 : decode prog_10_method_1_code 145 = .ok (.iinc 5 (1), 3) := by decide +kernel
theorem dTa_init_148 : decode prog_10_method_1_code 148 = .ok (.goto (-37), 3) := by decide +kernel
theorem dTa_init_151 : decode prog_10_method_1_code 151 = .ok (.iinc 2 (1), 3) := by decide +kernel
theorem dTa_init_154 : decode prog_10_method_1_code 154 = .ok (.goto (-84), 3) := by decide +kernel
theorem dTa_init_157 : decode prog_10_method_1_code 157 = .ok (.return_, 1) := by decide +kernel
theorem dC_talk_0 : decode prog_1_method_5_code 0 = .ok (.aload_n 0, 1) := by decide +kernel
theorem dC_talk_1 : decode prog_1_method_5_code 1 = .ok (.getfield 10, 3) := by decide +kernel
theorem dC_talk_4 : decode prog_1_method_5_code 4 = .ok (.invokevirtual 73, 3) := by decide +kernel
theorem dC_talk_7 : decode prog_1_method_5_code 7 = .ok (.istore_n 1, 1) := by decide +kernel
theorem dC_talk_8 : decode prog_1_method_5_code 8 = .ok (.iload_n 1, 1) := by decide +kernel
theorem dC_talk_9 : decode prog_1_method_5_code 9 = .ok (.aload_n 0, 1) := by decide +kernel
theorem dC_talk_10 : decode prog_1_method_5_code 10 = .ok (.getfield 10, 3) := by decide +kernel
theorem dC_talk_13 : decode prog_1_method_5_code 13 = .ok (.getfield 65, 3) := by decide +kernel
theorem dC_talk_16 : decode prog_1_method_5_code 16 = .ok (.if_icmp .lt (13), 3) := by decide +kernel
theorem dC_talk_19 : decode prog_1_method_5_code 19 = .ok (.aload_n 0, 1) := by decide +kernel
theorem dC_talk_20 : decode prog_1_method_5_code 20 = .ok (.getfield 10, 3) := by decide +kernel
theorem dC_talk_23 : decode prog_1_method_5_code 23 = .ok (.invokevirtual 77, 3) := by decide +kernel
theorem dC_talk_26 : decode prog_1_method_5_code 26 = .ok (.ifCond .ne (6), 3) := by decide +kernel
theorem dC_talk_29 : decode prog_1_method_5_code 29 = .ok (.bipush (-103), 2) := by decide +kernel
theorem dC_talk_31 : decode prog_1_method_5_code 31 = .ok (.ireturn, 1) := by decide +kernel
theorem dC_talk_32 : decode prog_1_method_5_code 32 = .ok (.aload_n 0, 1) := by decide +kernel
theorem dC_talk_33 : decode prog_1_method_5_code 33 = .ok (.getfield 10, 3) := by decide +kernel
theorem dC_talk_36 : decode prog_1_method_5_code 36 = .ok (.getfield 81, 3) := by decide +kernel
theorem dC_talk_39 : decode prog_1_method_5_code 39 = .ok (.bipush (24), 2) := by decide +kernel
theorem dC_talk_41 : decode prog_1_method_5_code 41 = .ok (.if_icmp .gt (13), 3) := by decide +kernel
theorem dC_talk_44 : decode prog_1_method_5_code 44 = .ok (.aload_n 0, 1) := by decide +kernel
theorem dC_talk_45 : decode prog_1_method_5_code 45 = .ok (.getfield 10, 3) := by decide +kernel
theorem dC_talk_48 : decode prog_1_method_5_code 48 = .ok (.invokevirtual 84, 3) := by decide +kernel
theorem dC_talk_51 : decode prog_1_method_5_code 51 = .ok (.ifCond .eq (6), 3) := by decide +kernel
theorem dC_talk_54 : decode prog_1_method_5_code 54 = .ok (.bipush (-102), 2) := by decide +kernel
theorem dC_talk_56 : decode prog_1_method_5_code 56 = .ok (.ireturn, 1) := by decide +kernel
theorem dC_talk_57 : decode prog_1_method_5_code 57 = .ok (.aload_n 0, 1) := by decide +kernel
theorem dC_talk_58 : decode prog_1_method_5_code 58 = .ok (.getfield 87, 3) := by decide +kernel
theorem dC_talk_61 : decode prog_1_method_5_code 61 = .ok (.bipush (6), 2) := by decide +kernel
theorem dC_talk_63 : decode prog_1_method_5_code 63 = .ok (.if_icmp .lt (6), 3) := by decide +kernel
theorem dC_talk_66 : decode prog_1_method_5_code 66 = .ok (.bipush (-104), 2) := by decide +kernel
theorem dC_talk_68 : decode prog_1_method_5_code 68 = .ok (.ireturn, 1) := by decide +kernel
theorem dC_talk_69 : decode prog_1_method_5_code 69 = .ok (.aload_n 0, 1) := by decide +kernel
theorem dC_talk_70 : decode prog_1_method_5_code 70 = .ok (.getfield 18, 3) := by decide +kernel
theorem dC_talk_73 : decode prog_1_method_5_code 73 = .ok (.aload_n 0, 1) := by decide +kernel
theorem dC_talk_74 : decode prog_1_method_5_code 74 = .ok (.getfield 87, 3) := by decide +kernel
theorem dC_talk_77 : decode prog_1_method_5_code 77 = .ok (.new 16, 3) := by decide +kernel
theorem dC_talk_80 : decode prog_1_method_5_code 80 = .ok (.dup, 1) := by decide +kernel
theorem dC_talk_81 : decode prog_1_method_5_code 81 = .ok (.aload_n 0, 1) := by decide +kernel
theorem dC_talk_82 : decode prog_1_method_5_code 82 = .ok (.getfield 10, 3) := by decide +kernel
theorem dC_talk_85 : decode prog_1_method_5_code 85 = .ok (.invokespecial 90, 3) := by decide +kernel
theorem dC_talk_88 : decode prog_1_method_5_code 88 = .ok (.aastore, 1) := by decide +kernel
theorem dC_talk_89 : decode prog_1_method_5_code 89 = .ok (.aload_n 0, 1) := by decide +kernel
theorem dC_talk_90 : decode prog_1_method_5_code 90 = .ok (.dup, 1) := by decide +kernel
theorem dC_talk_91 : decode prog_1_method_5_code 91 = .ok (.getfield 87, 3) := by decide +kernel
theorem dC_talk_94 : decode prog_1_method_5_code 94 = .ok (.iconst (1), 1) := by decide +kernel
theorem dC_talk_95 : decode prog_1_method_5_code 95 = .ok (.iadd, 1) := by decide +kernel
theorem dC_talk_96 : decode prog_1_method_5_code 96 = .ok (.putfield 87, 3) := by decide +kernel
theorem dC_talk_99 : decode prog_1_method_5_code 99 = .ok (.aload_n 0, 1) := by decide +kernel
theorem dC_talk_100 : decode prog_1_method_5_code 100 = .ok (.getfield 10, 3) := by decide +kernel
theorem dC_talk_103 : decode prog_1_method_5_code 103 = .ok (.iconst (0), 1) := by decide +kernel
theorem dC_talk_104 : decode prog_1_method_5_code 104 = .ok (.putfield 65, 3) := by decide +kernel
theorem dC_talk_107 : decode prog_1_method_5_code 107 = .ok (.aload_n 0, 1) := by decide +kernel
theorem dC_talk_108 : decode prog_1_method_5_code 108 = .ok (.getfield 87, 3) := by decide +kernel
theorem dC_talk_111 : decode prog_1_method_5_code 111 = .ok (.iconst (1), 1) := by decide +kernel
theorem dC_talk_112 : decode prog_1_method_5_code 112 = .ok (.isub, 1) := by decide +kernel
theorem dC_talk_113 : decode prog_1_method_5_code 113 = .ok (.ireturn, 1) := by decide +kernel
theorem dM_nextSet_0 : decode prog_14_method_14_code 0 = .ok (.iload_n 1, 1) := by decide +kernel
theorem dM_nextSet_1 : decode prog_14_method_14_code 1 = .ok (.ifCond .ne (12), 3) := by decide +kernel
theorem dM_nextSet_4 : decode prog_14_method_14_code 4 = .ok (.aload_n 0, 1) := by decide +kernel
theorem dM_nextSet_5 : decode prog_14_method_14_code 5 = .ok (.getfield 57, 3) := by decide +kernel
theorem dM_nextSet_8 : decode prog_14_method_14_code 8 = .ok (.iconst (0), 1) := by decide +kernel
theorem dM_nextSet_9 : decode prog_14_method_14_code 9 = .ok (.laload, 1) := by decide +kernel
theorem dM_nextSet_10 : decode prog_14_method_14_code 10 = .ok (.goto (11), 3) := by decide +kernel
theorem dM_nextSet_13 : decode prog_14_method_14_code 13 = .ok (.aload_n 0, 1) := by decide +kernel
theorem dM_nextSet_14 : decode prog_14_method_14_code 14 = .ok (.getfield 76, 3) := by decide +kernel
theorem dM_nextSet_17 : decode prog_14_method_14_code 17 = .ok (.iload_n 1, 1) := by decide +kernel
theorem dM_nextSet_18 : decode prog_14_method_14_code 18 = .ok (.iconst (1), 1) := by decide +kernel
theorem dM_nextSet_19 : decode prog_14_method_14_code 19 = .ok (.isub, 1) := by decide +kernel
theorem dM_nextSet_20 : decode prog_14_method_14_code 20 = .ok (.laload, 1) := by decide +kernel
theorem dM_nextSet_21 : decode prog_14_method_14_code 21 = .ok (.lreturn, 1) := by decide +kernel
theorem dM_isTwofold_0 : decode prog_14_method_15_code 0 = .ok (.iconst (0), 1) := by decide +kernel
theorem dM_isTwofold_1 : decode prog_14_method_15_code 1 = .ok (.istore_n 1, 1) := by decide +kernel
theorem dM_isTwofold_2 : decode prog_14_method_15_code 2 = .ok (.iload_n 1, 1) := by decide +kernel
theorem dM_isTwofold_3 : decode prog_14_method_15_code 3 = .ok (.aload_n 0, 1) := by decide +kernel
theorem dM_isTwofold_4 : decode prog_14_method_15_code 4 = .ok (.getfield 134, 3) := by decide +kernel
theorem dM_isTwofold_7 : decode prog_14_method_15_code 7 = .ok (.if_icmp .gt (68), 3) := by decide +kernel
theorem dM_isTwofold_10 : decode prog_14_method_15_code 10 = .ok (.iconst (0), 1) := by decide +kernel
theorem dM_isTwofold_11 : decode prog_14_method_15_code 11 = .ok (.istore_n 2, 1) := by decide +kernel
theorem dM_isTwofold_12 : decode prog_14_method_15_code 12 = .ok (.iconst (0), 1) := by decide +kernel
theorem dM_isTwofold_13 : decode prog_14_method_15_code 13 = .ok (.istore_n 3, 1) := by decide +kernel
theorem dM_isTwofold_14 : decode prog_14_method_15_code 14 = .ok (.iload_n 3, 1) := by decide +kernel
theorem dM_isTwofold_15 : decode prog_14_method_15_code 15 = .ok (.aload_n 0, 1) := by decide +kernel
theorem dM_isTwofold_16 : decode prog_14_method_15_code 16 = .ok (.getfield 134, 3) := by decide +kernel
theorem dM_isTwofold_19 : decode prog_14_method_15_code 19 = .ok (.if_icmp .ge (50), 3) := by decide +kernel
theorem dM_isTwofold_22 : decode prog_14_method_15_code 22 = .ok (.aload_n 0, 1) := by decide +kernel
theorem dM_isTwofold_23 : decode prog_14_method_15_code 23 = .ok (.iload_n 1, 1) := by decide +kernel
theorem dM_isTwofold_24 : decode prog_14_method_15_code 24 = .ok (.invokevirtual 165, 3) := by decide +kernel
theorem dM_isTwofold_27 : decode prog_14_method_15_code 27 = .ok (.iload_n 3, 1) := by decide +kernel
theorem dM_isTwofold_28 : decode prog_14_method_15_code 28 = .ok (.lshr, 1) := by decide +kernel
theorem dM_isTwofold_29 : decode prog_14_method_15_code 29 = .ok (.lconst 1, 1) := by decide +kernel
theorem dM_isTwofold_30 : decode prog_14_method_15_code 30 = .ok (.land, 1) := by decide +kernel
theorem dM_isTwofold_31 : decode prog_14_method_15_code 31 = .ok (.lconst 1, 1) := by decide +kernel
theorem dM_isTwofold_32 : decode prog_14_method_15_code 32 = .ok (.lcmp, 1) := by decide +kernel
theorem dM_isTwofold_33 : decode prog_14_method_15_code 33 = .ok (.ifCond .ne (30), 3) := by decide +kernel
theorem dM_isTwofold_36 : decode prog_14_method_15_code 36 = .ok (.iload_n 2, 1) := by decide +kernel
theorem dM_isTwofold_37 : decode prog_14_method_15_code 37 = .ok (.aload_n 0, 1) := by decide +kernel
theorem dM_isTwofold_38 : decode prog_14_method_15_code 38 = .ok (.getfield 73, 3) := by decide +kernel
theorem dM_isTwofold_41 : decode prog_14_method_15_code 41 = .ok (.iload_n 3, 1) := by decide +kernel
theorem dM_isTwofold_42 : decode prog_14_method_15_code 42 = .ok (.iaload, 1) := by decide +kernel
theorem dM_isTwofold_43 : decode prog_14_method_15_code 43 = .ok (.ishr, 1) := by decide +kernel
theorem dM_isTwofold_44 : decode prog_14_method_15_code 44 = .ok (.iconst (1), 1) := by decide +kernel
theorem dM_isTwofold_45 : decode prog_14_method_15_code 45 = .ok (.iand, 1) := by decide +kernel
theorem dM_isTwofold_46 : decode prog_14_method_15_code 46 = .ok (.iconst (1), 1) := by decide +kernel
theorem dM_isTwofold_47 : decode prog_14_method_15_code 47 = .ok (.if_icmp .ne (5), 3) := by decide +kernel
theorem dM_isTwofold_50 : decode prog_14_method_15_code 50 = .ok (.iconst (1), 1) := by decide +kernel
theorem dM_isTwofold_51 : decode prog_14_method_15_code 51 = .ok (.ireturn, 1) := by decide +kernel
theorem dM_isTwofold_52 : decode prog_14_method_15_code 52 = .ok (.iload_n 2, 1) := by decide +kernel
theorem dM_isTwofold_53 : decode prog_14_method_15_code 53 = .ok (.iconst (1), 1) := by decide +kernel
theorem dM_isTwofold_54 : decode prog_14_method_15_code 54 = .ok (.aload_n 0, 1) := by decide +kernel
theorem dM_isTwofold_55 : decode prog_14_method_15_code 55 = .ok (.getfield 73, 3) := by decide +kernel
theorem dM_isTwofold_58 : decode prog_14_method_15_code 58 = .ok (.iload_n 3, 1) := by decide +kernel
theorem dM_isTwofold_59 : decode prog_14_method_15_code 59 = .ok (.iaload, 1) := by decide +kernel
theorem dM_isTwofold_60 : decode prog_14_method_15_code 60 = .ok (.ishl, 1) := by decide +kernel
theorem dM_isTwofold_61 : decode prog_14_method_15_code 61 = .ok (.ior, 1) := by decide +kernel
theorem dM_isTwofold_62 : decode prog_14_method_15_code 62 = .ok (.istore_n 2, 1) := by decide +kernel
theorem dM_isTwofold_63 : decode prog_14_method_15_code 63 = .ok (.iinc 3 (1), 3) := by decide +kernel
theorem dM_isTwofold_66 : decode prog_14_method_15_code 66 = .ok (.goto (-52), 3) := by decide +kernel
theorem dM_isTwofold_69 : decode prog_14_method_15_code 69 = .ok (.iinc 1 (1), 3) := by decide +kernel
theorem dM_isTwofold_72 : decode prog_14_method_15_code 72 = .ok (.goto (-70), 3) := by decide +kernel
theorem dM_isTwofold_75 : decode prog_14_method_15_code 75 = .ok (.iconst (0), 1) := by decide +kernel
theorem dM_isTwofold_76 : decode prog_14_method_15_code 76 = .ok (.ireturn, 1) := by decide +kernel
theorem dM_place_0 : decode prog_14_method_16_code 0 = .ok (.sipush (400), 3) := by decide +kernel
theorem dM_place_3 : decode prog_14_method_16_code 3 = .ok (.iload_n 0, 1) := by decide +kernel
theorem dM_place_4 : decode prog_14_method_16_code 4 = .ok (.imul, 1) := by decide +kernel
theorem dM_place_5 : decode prog_14_method_16_code 5 = .ok (.bipush (16), 2) := by decide +kernel
theorem dM_place_7 : decode prog_14_method_16_code 7 = .ok (.iload_n 1, 1) := by decide +kernel
theorem dM_place_8 : decode prog_14_method_16_code 8 = .ok (.imul, 1) := by decide +kernel
theorem dM_place_9 : decode prog_14_method_16_code 9 = .ok (.iadd, 1) := by decide +kernel
theorem dM_place_10 : decode prog_14_method_16_code 10 = .ok (.bipush (8), 2) := by decide +kernel
theorem dM_place_12 : decode prog_14_method_16_code 12 = .ok (.iload_n 2, 1) := by decide +kernel
theorem dM_place_13 : decode prog_14_method_16_code 13 = .ok (.imul, 1) := by decide +kernel
theorem dM_place_14 : decode prog_14_method_16_code 14 = .ok (.iadd, 1) := by decide +kernel
theorem dM_place_15 : decode prog_14_method_16_code 15 = .ok (.iload_n 3, 1) := by decide +kernel
theorem dM_place_16 : decode prog_14_method_16_code 16 = .ok (.iadd, 1) := by decide +kernel
theorem dM_place_17 : decode prog_14_method_16_code 17 = .ok (.ireturn, 1) := by decide +kernel
theorem dM_talk_0 : decode prog_14_method_17_code 0 = .ok (.aload_n 0, 1) := by decide +kernel
theorem dM_talk_1 : decode prog_14_method_17_code 1 = .ok (.invokevirtual 162, 3) := by decide +kernel
theorem dM_talk_4 : decode prog_14_method_17_code 4 = .ok (.aload_n 0, 1) := by decide +kernel
theorem dM_talk_5 : decode prog_14_method_17_code 5 = .ok (.getfield 158, 3) := by decide +kernel
theorem dM_talk_8 : decode prog_14_method_17_code 8 = .ok (.ifCond .ne (6), 3) := by decide +kernel
theorem dM_talk_11 : decode prog_14_method_17_code 11 = .ok (.bipush (-103), 2) := by decide +kernel
theorem dM_talk_13 : decode prog_14_method_17_code 13 = .ok (.ireturn, 1) := by decide +kernel
theorem dM_talk_14 : decode prog_14_method_17_code 14 = .ok (.aload_n 0, 1) := by decide +kernel
theorem dM_talk_15 : decode prog_14_method_17_code 15 = .ok (.getfield 134, 3) := by decide +kernel
theorem dM_talk_18 : decode prog_14_method_17_code 18 = .ok (.bipush (24), 2) := by decide +kernel
theorem dM_talk_20 : decode prog_14_method_17_code 20 = .ok (.if_icmp .gt (10), 3) := by decide +kernel
theorem dM_talk_23 : decode prog_14_method_17_code 23 = .ok (.aload_n 0, 1) := by decide +kernel
theorem dM_talk_24 : decode prog_14_method_17_code 24 = .ok (.invokevirtual 169, 3) := by decide +kernel
theorem dM_talk_27 : decode prog_14_method_17_code 27 = .ok (.ifCond .eq (6), 3) := by decide +kernel
theorem dM_talk_30 : decode prog_14_method_17_code 30 = .ok (.bipush (-102), 2) := by decide +kernel
theorem dM_talk_32 : decode prog_14_method_17_code 32 = .ok (.ireturn, 1) := by decide +kernel
theorem dM_talk_33 : decode prog_14_method_17_code 33 = .ok (.aload_n 0, 1) := by decide +kernel
theorem dM_talk_34 : decode prog_14_method_17_code 34 = .ok (.getfield 173, 3) := by decide +kernel
theorem dM_talk_37 : decode prog_14_method_17_code 37 = .ok (.bipush (6), 2) := by decide +kernel
theorem dM_talk_39 : decode prog_14_method_17_code 39 = .ok (.if_icmp .ne (6), 3) := by decide +kernel
theorem dM_talk_42 : decode prog_14_method_17_code 42 = .ok (.bipush (-104), 2) := by decide +kernel
theorem dM_talk_44 : decode prog_14_method_17_code 44 = .ok (.ireturn, 1) := by decide +kernel
theorem dM_talk_45 : decode prog_14_method_17_code 45 = .ok (.aload_n 0, 1) := by decide +kernel
theorem dM_talk_46 : decode prog_14_method_17_code 46 = .ok (.getfield 13, 3) := by decide +kernel
theorem dM_talk_49 : decode prog_14_method_17_code 49 = .ok (.aload_n 0, 1) := by decide +kernel
theorem dM_talk_50 : decode prog_14_method_17_code 50 = .ok (.getfield 173, 3) := by decide +kernel
theorem dM_talk_53 : decode prog_14_method_17_code 53 = .ok (.aload_n 0, 1) := by decide +kernel
theorem dM_talk_54 : decode prog_14_method_17_code 54 = .ok (.getfield 134, 3) := by decide +kernel
theorem dM_talk_57 : decode prog_14_method_17_code 57 = .ok (.iastore, 1) := by decide +kernel
theorem dM_talk_58 : decode prog_14_method_17_code 58 = .ok (.iconst (0), 1) := by decide +kernel
theorem dM_talk_59 : decode prog_14_method_17_code 59 = .ok (.istore_n 1, 1) := by decide +kernel
theorem dM_talk_60 : decode prog_14_method_17_code 60 = .ok (.iload_n 1, 1) := by decide +kernel
theorem dM_talk_61 : decode prog_14_method_17_code 61 = .ok (.aload_n 0, 1) := by decide +kernel
theorem dM_talk_62 : decode prog_14_method_17_code 62 = .ok (.getfield 134, 3) := by decide +kernel
theorem dM_talk_65 : decode prog_14_method_17_code 65 = .ok (.if_icmp .gt (150), 3) := by decide +kernel
theorem dM_talk_68 : decode prog_14_method_17_code 68 = .ok (.iconst (0), 1) := by decide +kernel
theorem dM_talk_69 : decode prog_14_method_17_code 69 = .ok (.istore_n 2, 1) := by decide +kernel
theorem dM_talk_70 : decode prog_14_method_17_code 70 = .ok (.iload_n 2, 1) := by decide +kernel
theorem dM_talk_71 : decode prog_14_method_17_code 71 = .ok (.bipush (16), 2) := by decide +kernel
theorem dM_talk_73 : decode prog_14_method_17_code 73 = .ok (.if_icmp .ge (25), 3) := by decide +kernel
theorem dM_talk_76 : decode prog_14_method_17_code 76 = .ok (.aload_n 0, 1) := by decide +kernel
theorem dM_talk_77 : decode prog_14_method_17_code 77 = .ok (.getfield 17, 3) := by decide +kernel
theorem dM_talk_80 : decode prog_14_method_17_code 80 = .ok (.aload_n 0, 1) := by decide +kernel
theorem dM_talk_81 : decode prog_14_method_17_code 81 = .ok (.getfield 173, 3) := by decide +kernel
theorem dM_talk_84 : decode prog_14_method_17_code 84 = .ok (.iload_n 1, 1) := by decide +kernel
theorem dM_talk_85 : decode prog_14_method_17_code 85 = .ok (.iconst (0), 1) := by decide +kernel
theorem dM_talk_86 : decode prog_14_method_17_code 86 = .ok (.iload_n 2, 1) := by decide +kernel
theorem dM_talk_87 : decode prog_14_method_17_code 87 = .ok (.invokestatic 176, 3) := by decide +kernel
theorem dM_talk_90 : decode prog_14_method_17_code 90 = .ok (.iconst (-1), 1) := by decide +kernel
theorem dM_talk_91 : decode prog_14_method_17_code 91 = .ok (.iastore, 1) := by decide +kernel
theorem dM_talk_92 : decode prog_14_method_17_code 92 = .ok (.iinc 2 (1), 3) := by decide +kernel
theorem dM_talk_95 : decode prog_14_method_17_code 95 = .ok (.goto (-25), 3) := by decide +kernel
theorem dM_talk_98 : decode prog_14_method_17_code 98 = .ok (.iconst (0), 1) := by decide +kernel
theorem dM_talk_99 : decode prog_14_method_17_code 99 = .ok (.istore_n 2, 1) := by decide +kernel
theorem dM_talk_100 : decode prog_14_method_17_code 100 = .ok (.iload_n 2, 1) := by decide +kernel
theorem dM_talk_101 : decode prog_14_method_17_code 101 = .ok (.aload_n 0, 1) := by decide +kernel
theorem dM_talk_102 : decode prog_14_method_17_code 102 = .ok (.getfield 134, 3) := by decide +kernel
theorem dM_talk_105 : decode prog_14_method_17_code 105 = .ok (.if_icmp .ge (55), 3) := by decide +kernel
theorem dM_talk_108 : decode prog_14_method_17_code 108 = .ok (.aload_n 0, 1) := by decide +kernel
theorem dM_talk_109 : decode prog_14_method_17_code 109 = .ok (.iload_n 1, 1) := by decide +kernel
theorem dM_talk_110 : decode prog_14_method_17_code 110 = .ok (.invokevirtual 165, 3) := by decide +kernel
theorem dM_talk_113 : decode prog_14_method_17_code 113 = .ok (.iload_n 2, 1) := by decide +kernel
theorem dM_talk_114 : decode prog_14_method_17_code 114 = .ok (.lshr, 1) := by decide +kernel
theorem dM_talk_115 : decode prog_14_method_17_code 115 = .ok (.lconst 1, 1) := by decide +kernel
theorem dM_talk_116 : decode prog_14_method_17_code 116 = .ok (.land, 1) := by decide +kernel
theorem dM_talk_117 : decode prog_14_method_17_code 117 = .ok (.lconst 1, 1) := by decide +kernel
theorem dM_talk_118 : decode prog_14_method_17_code 118 = .ok (.lcmp, 1) := by decide +kernel
theorem dM_talk_119 : decode prog_14_method_17_code 119 = .ok (.ifCond .ne (35), 3) := by decide +kernel
theorem dM_talk_122 : decode prog_14_method_17_code 122 = .ok (.aload_n 0, 1) := by decide +kernel
theorem dM_talk_123 : decode prog_14_method_17_code 123 = .ok (.getfield 17, 3) := by decide +kernel
theorem dM_talk_126 : decode prog_14_method_17_code 126 = .ok (.aload_n 0, 1) := by decide +kernel
theorem dM_talk_127 : decode prog_14_method_17_code 127 = .ok (.getfield 173, 3) := by decide +kernel
theorem dM_talk_130 : decode prog_14_method_17_code 130 = .ok (.iload_n 1, 1) := by decide +kernel
theorem dM_talk_131 : decode prog_14_method_17_code 131 = .ok (.aload_n 0, 1) := by decide +kernel
theorem dM_talk_132 : decode prog_14_method_17_code 132 = .ok (.getfield 73, 3) := by decide +kernel
theorem dM_talk_135 : decode prog_14_method_17_code 135 = .ok (.iload_n 2, 1) := by decide +kernel
theorem dM_talk_136 : decode prog_14_method_17_code 136 = .ok (.iaload, 1) := by decide +kernel
theorem dM_talk_137 : decode prog_14_method_17_code 137 = .ok (.iconst (2), 1) := by decide +kernel
theorem dM_talk_138 : decode prog_14_method_17_code 138 = .ok (.irem, 1) := by decide +kernel
theorem dM_talk_139 : decode prog_14_method_17_code 139 = .ok (.aload_n 0, 1) := by decide +kernel
theorem dM_talk_140 : decode prog_14_method_17_code 140 = .ok (.getfield 73, 3) := by decide +kernel
theorem dM_talk_143 : decode prog_14_method_17_code 143 = .ok (.iload_n 2, 1) := by decide +kernel
theorem dM_talk_144 : decode prog_14_method_17_code 144 = .ok (.iaload, 1) := by decide +kernel
theorem dM_talk_145 : decode prog_14_method_17_code 145 = .ok (.iconst (2), 1) := by decide +kernel
theorem dM_talk_146 : decode prog_14_method_17_code 146 = .ok (.idiv, 1) := by decide +kernel
theorem dM_talk_147 : decode prog_14_method_17_code 147 = .ok (.invokestatic 176, 3) := by decide +kernel
theorem dM_talk_150 : decode prog_14_method_17_code 150 = .ok (.iload_n 2, 1) := by decide +kernel
theorem dM_talk_151 : decode prog_14_method_17_code 151 = .ok (.iconst (1), 1) := by decide +kernel
theorem dM_talk_152 : decode prog_14_method_17_code 152 = .ok (.iadd, 1) := by decide +kernel
theorem dM_talk_153 : decode prog_14_method_17_code 153 = .ok (.iastore, 1) := by decide +kernel
theorem dM_talk_154 : decode prog_14_method_17_code 154 = .ok (.iinc 2 (1), 3) := by decide +kernel
theorem dM_talk_157 : decode prog_14_method_17_code 157 = .ok (.goto (-57), 3) := by decide +kernel
theorem dM_talk_160 : decode prog_14_method_17_code 160 = .ok (.aload_n 0, 1) := by decide +kernel
theorem dM_talk_161 : decode prog_14_method_17_code 161 = .ok (.getfield 20, 3) := by decide +kernel
theorem dM_talk_164 : decode prog_14_method_17_code 164 = .ok (.bipush (25), 2) := by decide +kernel
theorem dM_talk_166 : decode prog_14_method_17_code 166 = .ok (.aload_n 0, 1) := by decide +kernel
theorem dM_talk_167 : decode prog_14_method_17_code 167 = .ok (.getfield 173, 3) := by decide +kernel
theorem dM_talk_170 : decode prog_14_method_17_code 170 = .ok (.imul, 1) := by decide +kernel
theorem dM_talk_171 : decode prog_14_method_17_code 171 = .ok (.iload_n 1, 1) := by decide +kernel
theorem dM_talk_172 : decode prog_14_method_17_code 172 = .ok (.iadd, 1) := by decide +kernel
theorem dM_talk_173 : decode prog_14_method_17_code 173 = .ok (.iload_n 1, 1) := by decide +kernel
theorem dM_talk_174 : decode prog_14_method_17_code 174 = .ok (.ifCond .ne (12), 3) := by decide +kernel
theorem dM_talk_177 : decode prog_14_method_17_code 177 = .ok (.aload_n 0, 1) := by decide +kernel
theorem dM_talk_178 : decode prog_14_method_17_code 178 = .ok (.getfield 54, 3) := by decide +kernel
theorem dM_talk_181 : decode prog_14_method_17_code 181 = .ok (.iconst (0), 1) := by decide +kernel
theorem dM_talk_182 : decode prog_14_method_17_code 182 = .ok (.baload, 1) := by decide +kernel
theorem dM_talk_183 : decode prog_14_method_17_code 183 = .ok (.goto (25), 3) := by decide +kernel
theorem dM_talk_186 : decode prog_14_method_17_code 186 = .ok (.aload_n 0, 1) := by decide +kernel
theorem dM_talk_187 : decode prog_14_method_17_code 187 = .ok (.getfield 61, 3) := by decide +kernel
theorem dM_talk_190 : decode prog_14_method_17_code 190 = .ok (.iconst (0), 1) := by decide +kernel
theorem dM_talk_191 : decode prog_14_method_17_code 191 = .ok (.laload, 1) := by decide +kernel
theorem dM_talk_192 : decode prog_14_method_17_code 192 = .ok (.iload_n 1, 1) := by decide +kernel
theorem dM_talk_193 : decode prog_14_method_17_code 193 = .ok (.iconst (1), 1) := by decide +kernel
theorem dM_talk_194 : decode prog_14_method_17_code 194 = .ok (.isub, 1) := by decide +kernel
theorem dM_talk_195 : decode prog_14_method_17_code 195 = .ok (.lshr, 1) := by decide +kernel
theorem dM_talk_196 : decode prog_14_method_17_code 196 = .ok (.lconst 1, 1) := by decide +kernel
theorem dM_talk_197 : decode prog_14_method_17_code 197 = .ok (.land, 1) := by decide +kernel
theorem dM_talk_198 : decode prog_14_method_17_code 198 = .ok (.lconst 1, 1) := by decide +kernel
theorem dM_talk_199 : decode prog_14_method_17_code 199 = .ok (.lcmp, 1) := by decide +kernel
theorem dM_talk_200 : decode prog_14_method_17_code 200 = .ok (.ifCond .ne (7), 3) := by decide +kernel
theorem dM_talk_203 : decode prog_14_method_17_code 203 = .ok (.iconst (1), 1) := by decide +kernel
theorem dM_talk_204 : decode prog_14_method_17_code 204 = .ok (.goto (4), 3) := by decide +kernel
theorem dM_talk_207 : decode prog_14_method_17_code 207 = .ok (.iconst (0), 1) := by decide +kernel
theorem dM_talk_208 : decode prog_14_method_17_code 208 = .ok (.bastore, 1) := by decide +kernel
theorem dM_talk_209 : decode prog_14_method_17_code 209 = .ok (.iinc 1 (1), 3) := by decide +kernel
theorem dM_talk_212 : decode prog_14_method_17_code 212 = .ok (.goto (-152), 3) := by decide +kernel
theorem dM_talk_215 : decode prog_14_method_17_code 215 = .ok (.aload_n 0, 1) := by decide +kernel
theorem dM_talk_216 : decode prog_14_method_17_code 216 = .ok (.dup, 1) := by decide +kernel
theorem dM_talk_217 : decode prog_14_method_17_code 217 = .ok (.getfield 173, 3) := by decide +kernel
theorem dM_talk_220 : decode prog_14_method_17_code 220 = .ok (.iconst (1), 1) := by decide +kernel
theorem dM_talk_221 : decode prog_14_method_17_code 221 = .ok (.iadd, 1) := by decide +kernel
theorem dM_talk_222 : decode prog_14_method_17_code 222 = .ok (.putfield 173, 3) := by decide +kernel
theorem dM_talk_225 : decode prog_14_method_17_code 225 = .ok (.aload_n 0, 1) := by decide +kernel
theorem dM_talk_226 : decode prog_14_method_17_code 226 = .ok (.iconst (0), 1) := by decide +kernel
theorem dM_talk_227 : decode prog_14_method_17_code 227 = .ok (.putfield 120, 3) := by decide +kernel
theorem dM_talk_230 : decode prog_14_method_17_code 230 = .ok (.aload_n 0, 1) := by decide +kernel
theorem dM_talk_231 : decode prog_14_method_17_code 231 = .ok (.getfield 173, 3) := by decide +kernel
theorem dM_talk_234 : decode prog_14_method_17_code 234 = .ok (.iconst (1), 1) := by decide +kernel
theorem dM_talk_235 : decode prog_14_method_17_code 235 = .ok (.isub, 1) := by decide +kernel
theorem dM_talk_236 : decode prog_14_method_17_code 236 = .ok (.ireturn, 1) := by decide +kernel
theorem dC_talkNumbered_0 : decode prog_1_method_43_code 0 = .ok (.iload_n 1, 1) := by decide +kernel
theorem dC_talkNumbered_1 : decode prog_1_method_43_code 1 = .ok (.ifCond .lt (11), 3) := by decide +kernel
theorem dC_talkNumbered_4 : decode prog_1_method_43_code 4 = .ok (.iload_n 1, 1) := by decide +kernel
theorem dC_talkNumbered_5 : decode prog_1_method_43_code 5 = .ok (.aload_n 0, 1) := by decide +kernel
theorem dC_talkNumbered_6 : decode prog_1_method_43_code 6 = .ok (.getfield 87, 3) := by decide +kernel
theorem dC_talkNumbered_9 : decode prog_1_method_43_code 9 = .ok (.if_icmp .lt (7), 3) := by decide +kernel
theorem dC_talkNumbered_12 : decode prog_1_method_43_code 12 = .ok (.aconst_null, 1) := by decide +kernel
theorem dC_talkNumbered_13 : decode prog_1_method_43_code 13 = .ok (.goto (9), 3) := by decide +kernel
theorem dC_talkNumbered_16 : decode prog_1_method_43_code 16 = .ok (.aload_n 0, 1) := by decide +kernel
theorem dC_talkNumbered_17 : decode prog_1_method_43_code 17 = .ok (.getfield 18, 3) := by decide +kernel
theorem dC_talkNumbered_20 : decode prog_1_method_43_code 20 = .ok (.iload_n 1, 1) := by decide +kernel
theorem dC_talkNumbered_21 : decode prog_1_method_43_code 21 = .ok (.aaload, 1) := by decide +kernel
theorem dC_talkNumbered_22 : decode prog_1_method_43_code 22 = .ok (.areturn, 1) := by decide +kernel
theorem dC_steps_0 : decode prog_1_method_6_code 0 = .ok (.aload_n 0, 1) := by decide +kernel
theorem dC_steps_1 : decode prog_1_method_6_code 1 = .ok (.iload_n 1, 1) := by decide +kernel
theorem dC_steps_2 : decode prog_1_method_6_code 2 = .ok (.invokevirtual 93, 3) := by decide +kernel
theorem dC_steps_5 : decode prog_1_method_6_code 5 = .ok (.astore_n 2, 1) := by decide +kernel
theorem dC_steps_6 : decode prog_1_method_6_code 6 = .ok (.aload_n 2, 1) := by decide +kernel
theorem dC_steps_7 : decode prog_1_method_6_code 7 = .ok (.ifnonnull (8), 3) := by decide +kernel
theorem dC_steps_10 : decode prog_1_method_6_code 10 = .ok (.bipush (-101), 2) := by decide +kernel
theorem dC_steps_12 : decode prog_1_method_6_code 12 = .ok (.goto (7), 3) := by decide +kernel
theorem dC_steps_15 : decode prog_1_method_6_code 15 = .ok (.aload_n 2, 1) := by decide +kernel
theorem dC_steps_16 : decode prog_1_method_6_code 16 = .ok (.getfield 97, 3) := by decide +kernel
theorem dC_steps_19 : decode prog_1_method_6_code 19 = .ok (.ireturn, 1) := by decide +kernel
theorem dM_isTalk_0 : decode prog_14_method_18_code 0 = .ok (.iload_n 1, 1) := by decide +kernel
theorem dM_isTalk_1 : decode prog_14_method_18_code 1 = .ok (.iconst (0), 1) := by decide +kernel
theorem dM_isTalk_2 : decode prog_14_method_18_code 2 = .ok (.aload_n 0, 1) := by decide +kernel
theorem dM_isTalk_3 : decode prog_14_method_18_code 3 = .ok (.getfield 173, 3) := by decide +kernel
theorem dM_isTalk_6 : decode prog_14_method_18_code 6 = .ok (.iconst (1), 1) := by decide +kernel
theorem dM_isTalk_7 : decode prog_14_method_18_code 7 = .ok (.isub, 1) := by decide +kernel
theorem dM_isTalk_8 : decode prog_14_method_18_code 8 = .ok (.invokestatic 148, 3) := by decide +kernel
theorem dM_isTalk_11 : decode prog_14_method_18_code 11 = .ok (.ireturn, 1) := by decide +kernel
theorem dM_steps_0 : decode prog_14_method_20_code 0 = .ok (.aload_n 0, 1) := by decide +kernel
theorem dM_steps_1 : decode prog_14_method_20_code 1 = .ok (.iload_n 1, 1) := by decide +kernel
theorem dM_steps_2 : decode prog_14_method_20_code 2 = .ok (.invokevirtual 180, 3) := by decide +kernel
theorem dM_steps_5 : decode prog_14_method_20_code 5 = .ok (.ifCond .eq (12), 3) := by decide +kernel
theorem dM_steps_8 : decode prog_14_method_20_code 8 = .ok (.aload_n 0, 1) := by decide +kernel
theorem dM_steps_9 : decode prog_14_method_20_code 9 = .ok (.getfield 13, 3) := by decide +kernel
theorem dM_steps_12 : decode prog_14_method_20_code 12 = .ok (.iload_n 1, 1) := by decide +kernel
theorem dM_steps_13 : decode prog_14_method_20_code 13 = .ok (.iaload, 1) := by decide +kernel
theorem dM_steps_14 : decode prog_14_method_20_code 14 = .ok (.goto (5), 3) := by decide +kernel
theorem dM_steps_17 : decode prog_14_method_20_code 17 = .ok (.bipush (-101), 2) := by decide +kernel
theorem dM_steps_19 : decode prog_14_method_20_code 19 = .ok (.ireturn, 1) := by decide +kernel
theorem dTa_has_0 : decode prog_10_method_3_code 0 = .ok (.iload_n 1, 1) := by decide +kernel
theorem dTa_has_1 : decode prog_10_method_3_code 1 = .ok (.ifCond .lt (15), 3) := by decide +kernel
theorem dTa_has_4 : decode prog_10_method_3_code 4 = .ok (.iload_n 1, 1) := by decide +kernel
theorem dTa_has_5 : decode prog_10_method_3_code 5 = .ok (.aload_n 0, 1) := by decide +kernel
theorem dTa_has_6 : decode prog_10_method_3_code 6 = .ok (.getfield 24, 3) := by decide +kernel
theorem dTa_has_9 : decode prog_10_method_3_code 9 = .ok (.if_icmp .gt (7), 3) := by decide +kernel
theorem dTa_has_12 : decode prog_10_method_3_code 12 = .ok (.iconst (1), 1) := by decide +kernel
theorem dTa_has_13 : decode prog_10_method_3_code 13 = .ok (.goto (4), 3) := by decide +kernel
theorem dTa_has_16 : decode prog_10_method_3_code 16 = .ok (.iconst (0), 1) := by decide +kernel
theorem dTa_has_17 : decode prog_10_method_3_code 17 = .ok (.ireturn, 1) := by decide +kernel
theorem dC_isSign_0 : decode prog_1_method_47_code 0 = .ok (.iload_n 0, 1) := by decide +kernel
theorem dC_isSign_1 : decode prog_1_method_47_code 1 = .ok (.ifCond .eq (8), 3) := by decide +kernel
theorem dC_isSign_4 : decode prog_1_method_47_code 4 = .ok (.iload_n 0, 1) := by decide +kernel
theorem dC_isSign_5 : decode prog_1_method_47_code 5 = .ok (.iconst (1), 1) := by decide +kernel
theorem dC_isSign_6 : decode prog_1_method_47_code 6 = .ok (.if_icmp .ne (7), 3) := by decide +kernel
theorem dC_isSign_9 : decode prog_1_method_47_code 9 = .ok (.iconst (1), 1) := by decide +kernel
theorem dC_isSign_10 : decode prog_1_method_47_code 10 = .ok (.goto (4), 3) := by decide +kernel
theorem dC_isSign_13 : decode prog_1_method_47_code 13 = .ok (.iconst (0), 1) := by decide +kernel
theorem dC_isSign_14 : decode prog_1_method_47_code 14 = .ok (.ireturn, 1) := by decide +kernel
theorem dTa_behind_0 : decode prog_10_method_5_code 0 = .ok (.aload_n 0, 1) := by decide +kernel
theorem dTa_behind_1 : decode prog_10_method_5_code 1 = .ok (.getfield 27, 3) := by decide +kernel
theorem dTa_behind_4 : decode prog_10_method_5_code 4 = .ok (.iload_n 1, 1) := by decide +kernel
theorem dTa_behind_5 : decode prog_10_method_5_code 5 = .ok (.bipush (16), 2) := by decide +kernel
theorem dTa_behind_7 : decode prog_10_method_5_code 7 = .ok (.imul, 1) := by decide +kernel
theorem dTa_behind_8 : decode prog_10_method_5_code 8 = .ok (.iload_n 2, 1) := by decide +kernel
theorem dTa_behind_9 : decode prog_10_method_5_code 9 = .ok (.bipush (8), 2) := by decide +kernel
theorem dTa_behind_11 : decode prog_10_method_5_code 11 = .ok (.imul, 1) := by decide +kernel
theorem dTa_behind_12 : decode prog_10_method_5_code 12 = .ok (.iadd, 1) := by decide +kernel
theorem dTa_behind_13 : decode prog_10_method_5_code 13 = .ok (.iload_n 3, 1) := by decide +kernel
theorem dTa_behind_14 : decode prog_10_method_5_code 14 = .ok (.iadd, 1) := by decide +kernel
theorem dTa_behind_15 : decode prog_10_method_5_code 15 = .ok (.iaload, 1) := by decide +kernel
theorem dTa_behind_16 : decode prog_10_method_5_code 16 = .ok (.ireturn, 1) := by decide +kernel
theorem dC_next_0 : decode prog_1_method_7_code 0 = .ok (.aload_n 0, 1) := by decide +kernel
theorem dC_next_1 : decode prog_1_method_7_code 1 = .ok (.iload_n 1, 1) := by decide +kernel
theorem dC_next_2 : decode prog_1_method_7_code 2 = .ok (.invokevirtual 93, 3) := by decide +kernel
theorem dC_next_5 : decode prog_1_method_7_code 5 = .ok (.astore 5, 2) := by decide +kernel
theorem dC_next_7 : decode prog_1_method_7_code 7 = .ok (.aload 5, 2) := by decide +kernel
theorem dC_next_9 : decode prog_1_method_7_code 9 = .ok (.ifnull (12), 3) := by decide +kernel
theorem dC_next_12 : decode prog_1_method_7_code 12 = .ok (.aload 5, 2) := by decide +kernel
theorem dC_next_14 : decode prog_1_method_7_code 14 = .ok (.iload_n 2, 1) := by decide +kernel
theorem dC_next_15 : decode prog_1_method_7_code 15 = .ok (.invokevirtual 98, 3) := by decide +kernel
theorem dC_next_18 : decode prog_1_method_7_code 18 = .ok (.ifCond .ne (6), 3) := by decide +kernel
theorem dC_next_21 : decode prog_1_method_7_code 21 = .ok (.bipush (-101), 2) := by decide +kernel
theorem dC_next_23 : decode prog_1_method_7_code 23 = .ok (.ireturn, 1) := by decide +kernel
theorem dC_next_24 : decode prog_1_method_7_code 24 = .ok (.iload_n 3, 1) := by decide +kernel
theorem dC_next_25 : decode prog_1_method_7_code 25 = .ok (.invokestatic 102, 3) := by decide +kernel
theorem dC_next_28 : decode prog_1_method_7_code 28 = .ok (.ifCond .eq (11), 3) := by decide +kernel
theorem dC_next_31 : decode prog_1_method_7_code 31 = .ok (.iload 4, 2) := by decide +kernel
theorem dC_next_33 : decode prog_1_method_7_code 33 = .ok (.invokestatic 105, 3) := by decide +kernel
theorem dC_next_36 : decode prog_1_method_7_code 36 = .ok (.ifCond .ne (6), 3) := by decide +kernel
theorem dC_next_39 : decode prog_1_method_7_code 39 = .ok (.bipush (-102), 2) := by decide +kernel
theorem dC_next_41 : decode prog_1_method_7_code 41 = .ok (.ireturn, 1) := by decide +kernel
theorem dC_next_42 : decode prog_1_method_7_code 42 = .ok (.aload 5, 2) := by decide +kernel
theorem dC_next_44 : decode prog_1_method_7_code 44 = .ok (.iload_n 2, 1) := by decide +kernel
theorem dC_next_45 : decode prog_1_method_7_code 45 = .ok (.iload_n 3, 1) := by decide +kernel
theorem dC_next_46 : decode prog_1_method_7_code 46 = .ok (.iload 4, 2) := by decide +kernel
theorem dC_next_48 : decode prog_1_method_7_code 48 = .ok (.invokevirtual 108, 3) := by decide +kernel
theorem dC_next_51 : decode prog_1_method_7_code 51 = .ok (.ireturn, 1) := by decide +kernel
theorem dM_isState_0 : decode prog_14_method_19_code 0 = .ok (.aload_n 0, 1) := by decide +kernel
theorem dM_isState_1 : decode prog_14_method_19_code 1 = .ok (.iload_n 1, 1) := by decide +kernel
theorem dM_isState_2 : decode prog_14_method_19_code 2 = .ok (.invokevirtual 180, 3) := by decide +kernel
theorem dM_isState_5 : decode prog_14_method_19_code 5 = .ok (.ifCond .eq (21), 3) := by decide +kernel
theorem dM_isState_8 : decode prog_14_method_19_code 8 = .ok (.iload_n 2, 1) := by decide +kernel
theorem dM_isState_9 : decode prog_14_method_19_code 9 = .ok (.iconst (0), 1) := by decide +kernel
theorem dM_isState_10 : decode prog_14_method_19_code 10 = .ok (.aload_n 0, 1) := by decide +kernel
theorem dM_isState_11 : decode prog_14_method_19_code 11 = .ok (.getfield 13, 3) := by decide +kernel
theorem dM_isState_14 : decode prog_14_method_19_code 14 = .ok (.iload_n 1, 1) := by decide +kernel
theorem dM_isState_15 : decode prog_14_method_19_code 15 = .ok (.iaload, 1) := by decide +kernel
theorem dM_isState_16 : decode prog_14_method_19_code 16 = .ok (.invokestatic 148, 3) := by decide +kernel
theorem dM_isState_19 : decode prog_14_method_19_code 19 = .ok (.ifCond .eq (7), 3) := by decide +kernel
theorem dM_isState_22 : decode prog_14_method_19_code 22 = .ok (.iconst (1), 1) := by decide +kernel
theorem dM_isState_23 : decode prog_14_method_19_code 23 = .ok (.goto (4), 3) := by decide +kernel
theorem dM_isState_26 : decode prog_14_method_19_code 26 = .ok (.iconst (0), 1) := by decide +kernel
theorem dM_isState_27 : decode prog_14_method_19_code 27 = .ok (.ireturn, 1) := by decide +kernel
theorem dM_next_0 : decode prog_14_method_21_code 0 = .ok (.aload_n 0, 1) := by decide +kernel
theorem dM_next_1 : decode prog_14_method_21_code 1 = .ok (.iload_n 1, 1) := by decide +kernel
theorem dM_next_2 : decode prog_14_method_21_code 2 = .ok (.iload_n 2, 1) := by decide +kernel
theorem dM_next_3 : decode prog_14_method_21_code 3 = .ok (.invokevirtual 184, 3) := by decide +kernel
theorem dM_next_6 : decode prog_14_method_21_code 6 = .ok (.ifCond .ne (6), 3) := by decide +kernel
theorem dM_next_9 : decode prog_14_method_21_code 9 = .ok (.bipush (-101), 2) := by decide +kernel
theorem dM_next_11 : decode prog_14_method_21_code 11 = .ok (.ireturn, 1) := by decide +kernel
theorem dM_next_12 : decode prog_14_method_21_code 12 = .ok (.iload_n 3, 1) := by decide +kernel
theorem dM_next_13 : decode prog_14_method_21_code 13 = .ok (.iconst (0), 1) := by decide +kernel
theorem dM_next_14 : decode prog_14_method_21_code 14 = .ok (.iconst (1), 1) := by decide +kernel
theorem dM_next_15 : decode prog_14_method_21_code 15 = .ok (.invokestatic 148, 3) := by decide +kernel
theorem dM_next_18 : decode prog_14_method_21_code 18 = .ok (.ifCond .eq (30), 3) := by decide +kernel
theorem dM_next_21 : decode prog_14_method_21_code 21 = .ok (.iload 4, 2) := by decide +kernel
theorem dM_next_23 : decode prog_14_method_21_code 23 = .ok (.iconst (0), 1) := by decide +kernel
theorem dM_next_24 : decode prog_14_method_21_code 24 = .ok (.bipush (7), 2) := by decide +kernel
theorem dM_next_26 : decode prog_14_method_21_code 26 = .ok (.invokestatic 148, 3) := by decide +kernel
theorem dM_next_29 : decode prog_14_method_21_code 29 = .ok (.ifCond .eq (19), 3) := by decide +kernel
theorem dM_next_32 : decode prog_14_method_21_code 32 = .ok (.aload_n 0, 1) := by decide +kernel
theorem dM_next_33 : decode prog_14_method_21_code 33 = .ok (.getfield 17, 3) := by decide +kernel
theorem dM_next_36 : decode prog_14_method_21_code 36 = .ok (.iload_n 1, 1) := by decide +kernel
theorem dM_next_37 : decode prog_14_method_21_code 37 = .ok (.iload_n 2, 1) := by decide +kernel
theorem dM_next_38 : decode prog_14_method_21_code 38 = .ok (.iload_n 3, 1) := by decide +kernel
theorem dM_next_39 : decode prog_14_method_21_code 39 = .ok (.iload 4, 2) := by decide +kernel
theorem dM_next_41 : decode prog_14_method_21_code 41 = .ok (.invokestatic 176, 3) := by decide +kernel
theorem dM_next_44 : decode prog_14_method_21_code 44 = .ok (.iaload, 1) := by decide +kernel
theorem dM_next_45 : decode prog_14_method_21_code 45 = .ok (.goto (5), 3) := by decide +kernel
theorem dM_next_48 : decode prog_14_method_21_code 48 = .ok (.bipush (-102), 2) := by decide +kernel
theorem dM_next_50 : decode prog_14_method_21_code 50 = .ok (.ireturn, 1) := by decide +kernel
theorem dTa_mayEnd_0 : decode prog_10_method_4_code 0 = .ok (.aload_n 0, 1) := by decide +kernel
theorem dTa_mayEnd_1 : decode prog_10_method_4_code 1 = .ok (.getfield 43, 3) := by decide +kernel
theorem dTa_mayEnd_4 : decode prog_10_method_4_code 4 = .ok (.iload_n 1, 1) := by decide +kernel
theorem dTa_mayEnd_5 : decode prog_10_method_4_code 5 = .ok (.ishr, 1) := by decide +kernel
theorem dTa_mayEnd_6 : decode prog_10_method_4_code 6 = .ok (.iconst (1), 1) := by decide +kernel
theorem dTa_mayEnd_7 : decode prog_10_method_4_code 7 = .ok (.iand, 1) := by decide +kernel
theorem dTa_mayEnd_8 : decode prog_10_method_4_code 8 = .ok (.ifCond .eq (7), 3) := by decide +kernel
theorem dTa_mayEnd_11 : decode prog_10_method_4_code 11 = .ok (.iconst (1), 1) := by decide +kernel
theorem dTa_mayEnd_12 : decode prog_10_method_4_code 12 = .ok (.goto (4), 3) := by decide +kernel
theorem dTa_mayEnd_15 : decode prog_10_method_4_code 15 = .ok (.iconst (0), 1) := by decide +kernel
theorem dTa_mayEnd_16 : decode prog_10_method_4_code 16 = .ok (.ireturn, 1) := by decide +kernel
theorem dC_ends_0 : decode prog_1_method_8_code 0 = .ok (.aload_n 0, 1) := by decide +kernel
theorem dC_ends_1 : decode prog_1_method_8_code 1 = .ok (.iload_n 1, 1) := by decide +kernel
theorem dC_ends_2 : decode prog_1_method_8_code 2 = .ok (.invokevirtual 93, 3) := by decide +kernel
theorem dC_ends_5 : decode prog_1_method_8_code 5 = .ok (.astore_n 3, 1) := by decide +kernel
theorem dC_ends_6 : decode prog_1_method_8_code 6 = .ok (.aload_n 3, 1) := by decide +kernel
theorem dC_ends_7 : decode prog_1_method_8_code 7 = .ok (.ifnull (11), 3) := by decide +kernel
theorem dC_ends_10 : decode prog_1_method_8_code 10 = .ok (.aload_n 3, 1) := by decide +kernel
theorem dC_ends_11 : decode prog_1_method_8_code 11 = .ok (.iload_n 2, 1) := by decide +kernel
theorem dC_ends_12 : decode prog_1_method_8_code 12 = .ok (.invokevirtual 98, 3) := by decide +kernel
theorem dC_ends_15 : decode prog_1_method_8_code 15 = .ok (.ifCond .ne (6), 3) := by decide +kernel
theorem dC_ends_18 : decode prog_1_method_8_code 18 = .ok (.bipush (-101), 2) := by decide +kernel
theorem dC_ends_20 : decode prog_1_method_8_code 20 = .ok (.ireturn, 1) := by decide +kernel
theorem dC_ends_21 : decode prog_1_method_8_code 21 = .ok (.aload_n 3, 1) := by decide +kernel
theorem dC_ends_22 : decode prog_1_method_8_code 22 = .ok (.iload_n 2, 1) := by decide +kernel
theorem dC_ends_23 : decode prog_1_method_8_code 23 = .ok (.invokevirtual 112, 3) := by decide +kernel
theorem dC_ends_26 : decode prog_1_method_8_code 26 = .ok (.ifCond .eq (7), 3) := by decide +kernel
theorem dC_ends_29 : decode prog_1_method_8_code 29 = .ok (.iconst (1), 1) := by decide +kernel
theorem dC_ends_30 : decode prog_1_method_8_code 30 = .ok (.goto (4), 3) := by decide +kernel
theorem dC_ends_33 : decode prog_1_method_8_code 33 = .ok (.iconst (0), 1) := by decide +kernel
theorem dC_ends_34 : decode prog_1_method_8_code 34 = .ok (.ireturn, 1) := by decide +kernel
theorem dM_ends_0 : decode prog_14_method_22_code 0 = .ok (.aload_n 0, 1) := by decide +kernel
theorem dM_ends_1 : decode prog_14_method_22_code 1 = .ok (.iload_n 1, 1) := by decide +kernel
theorem dM_ends_2 : decode prog_14_method_22_code 2 = .ok (.iload_n 2, 1) := by decide +kernel
theorem dM_ends_3 : decode prog_14_method_22_code 3 = .ok (.invokevirtual 184, 3) := by decide +kernel
theorem dM_ends_6 : decode prog_14_method_22_code 6 = .ok (.ifCond .ne (8), 3) := by decide +kernel
theorem dM_ends_9 : decode prog_14_method_22_code 9 = .ok (.bipush (-101), 2) := by decide +kernel
theorem dM_ends_11 : decode prog_14_method_22_code 11 = .ok (.goto (22), 3) := by decide +kernel
theorem dM_ends_14 : decode prog_14_method_22_code 14 = .ok (.aload_n 0, 1) := by decide +kernel
theorem dM_ends_15 : decode prog_14_method_22_code 15 = .ok (.getfield 20, 3) := by decide +kernel
theorem dM_ends_18 : decode prog_14_method_22_code 18 = .ok (.bipush (25), 2) := by decide +kernel
theorem dM_ends_20 : decode prog_14_method_22_code 20 = .ok (.iload_n 1, 1) := by decide +kernel
theorem dM_ends_21 : decode prog_14_method_22_code 21 = .ok (.imul, 1) := by decide +kernel
theorem dM_ends_22 : decode prog_14_method_22_code 22 = .ok (.iload_n 2, 1) := by decide +kernel
theorem dM_ends_23 : decode prog_14_method_22_code 23 = .ok (.iadd, 1) := by decide +kernel
theorem dM_ends_24 : decode prog_14_method_22_code 24 = .ok (.baload, 1) := by decide +kernel
theorem dM_ends_25 : decode prog_14_method_22_code 25 = .ok (.ifCond .eq (7), 3) := by decide +kernel
theorem dM_ends_28 : decode prog_14_method_22_code 28 = .ok (.iconst (1), 1) := by decide +kernel
theorem dM_ends_29 : decode prog_14_method_22_code 29 = .ok (.goto (4), 3) := by decide +kernel
theorem dM_ends_32 : decode prog_14_method_22_code 32 = .ok (.iconst (0), 1) := by decide +kernel
theorem dM_ends_33 : decode prog_14_method_22_code 33 = .ok (.ireturn, 1) := by decide +kernel
theorem dTa_messagesOf_0 : decode prog_10_method_6_code 0 = .ok (.iconst (0), 1) := by decide +kernel
theorem dTa_messagesOf_1 : decode prog_10_method_6_code 1 = .ok (.istore_n 2, 1) := by decide +kernel
theorem dTa_messagesOf_2 : decode prog_10_method_6_code 2 = .ok (.iconst (0), 1) := by decide +kernel
theorem dTa_messagesOf_3 : decode prog_10_method_6_code 3 = .ok (.istore_n 3, 1) := by decide +kernel
theorem dTa_messagesOf_4 : decode prog_10_method_6_code 4 = .ok (.iload_n 3, 1) := by decide +kernel
theorem dTa_messagesOf_5 : decode prog_10_method_6_code 5 = .ok (.aload_n 0, 1) := by decide +kernel
theorem dTa_messagesOf_6 : decode prog_10_method_6_code 6 = .ok (.getfield 24, 3) := by decide +kernel
theorem dTa_messagesOf_9 : decode prog_10_method_6_code 9 = .ok (.if_icmp .gt (31), 3) := by decide +kernel
theorem dTa_messagesOf_12 : decode prog_10_method_6_code 12 = .ok (.iload_n 2, 1) := by decide +kernel
theorem dTa_messagesOf_13 : decode prog_10_method_6_code 13 = .ok (.iload_n 1, 1) := by decide +kernel
theorem dTa_messagesOf_14 : decode prog_10_method_6_code 14 = .ok (.ifCond .ne (12), 3) := by decide +kernel
theorem dTa_messagesOf_17 : decode prog_10_method_6_code 17 = .ok (.aload_n 0, 1) := by decide +kernel
theorem dTa_messagesOf_18 : decode prog_10_method_6_code 18 = .ok (.getfield 31, 3) := by decide +kernel
theorem dTa_messagesOf_21 : decode prog_10_method_6_code 21 = .ok (.iload_n 3, 1) := by decide +kernel
theorem dTa_messagesOf_22 : decode prog_10_method_6_code 22 = .ok (.iaload, 1) := by decide +kernel
theorem dTa_messagesOf_23 : decode prog_10_method_6_code 23 = .ok (.goto (9), 3) := by decide +kernel
theorem dTa_messagesOf_26 : decode prog_10_method_6_code 26 = .ok (.aload_n 0, 1) := by decide +kernel
theorem dTa_messagesOf_27 : decode prog_10_method_6_code 27 = .ok (.getfield 34, 3) := by decide +kernel
theorem dTa_messagesOf_30 : decode prog_10_method_6_code 30 = .ok (.iload_n 3, 1) := by decide +kernel
theorem dTa_messagesOf_31 : decode prog_10_method_6_code 31 = .ok (.iaload, 1) := by decide +kernel
theorem dTa_messagesOf_32 : decode prog_10_method_6_code 32 = .ok (.ior, 1) := by decide +kernel
theorem dTa_messagesOf_33 : decode prog_10_method_6_code 33 = .ok (.istore_n 2, 1) := by decide +kernel
theorem dTa_messagesOf_34 : decode prog_10_method_6_code 34 = .ok (.iinc 3 (1), 3) := by decide +kernel
theorem dTa_messagesOf_37 : decode prog_10_method_6_code 37 = .ok (.goto (-33), 3) := by decide +kernel
theorem dTa_messagesOf_40 : decode prog_10_method_6_code 40 = .ok (.iload_n 2, 1) := by decide +kernel
theorem dTa_messagesOf_41 : decode prog_10_method_6_code 41 = .ok (.ireturn, 1) := by decide +kernel
theorem dC_uses_0 : decode prog_1_method_9_code 0 = .ok (.aload_n 0, 1) := by decide +kernel
theorem dC_uses_1 : decode prog_1_method_9_code 1 = .ok (.iload_n 1, 1) := by decide +kernel
theorem dC_uses_2 : decode prog_1_method_9_code 2 = .ok (.invokevirtual 93, 3) := by decide +kernel
theorem dC_uses_5 : decode prog_1_method_9_code 5 = .ok (.astore_n 3, 1) := by decide +kernel
theorem dC_uses_6 : decode prog_1_method_9_code 6 = .ok (.aload_n 3, 1) := by decide +kernel
theorem dC_uses_7 : decode prog_1_method_9_code 7 = .ok (.ifnonnull (6), 3) := by decide +kernel
theorem dC_uses_10 : decode prog_1_method_9_code 10 = .ok (.bipush (-101), 2) := by decide +kernel
theorem dC_uses_12 : decode prog_1_method_9_code 12 = .ok (.ireturn, 1) := by decide +kernel
theorem dC_uses_13 : decode prog_1_method_9_code 13 = .ok (.iload_n 2, 1) := by decide +kernel
theorem dC_uses_14 : decode prog_1_method_9_code 14 = .ok (.invokestatic 102, 3) := by decide +kernel
theorem dC_uses_17 : decode prog_1_method_9_code 17 = .ok (.ifCond .ne (6), 3) := by decide +kernel
theorem dC_uses_20 : decode prog_1_method_9_code 20 = .ok (.bipush (-102), 2) := by decide +kernel
theorem dC_uses_22 : decode prog_1_method_9_code 22 = .ok (.ireturn, 1) := by decide +kernel
theorem dC_uses_23 : decode prog_1_method_9_code 23 = .ok (.aload_n 3, 1) := by decide +kernel
theorem dC_uses_24 : decode prog_1_method_9_code 24 = .ok (.iload_n 2, 1) := by decide +kernel
theorem dC_uses_25 : decode prog_1_method_9_code 25 = .ok (.invokevirtual 115, 3) := by decide +kernel
theorem dC_uses_28 : decode prog_1_method_9_code 28 = .ok (.ireturn, 1) := by decide +kernel
theorem dM_nowOf_0 : decode prog_14_method_24_code 0 = .ok (.iconst (0), 1) := by decide +kernel
theorem dM_nowOf_1 : decode prog_14_method_24_code 1 = .ok (.istore 4, 2) := by decide +kernel
theorem dM_nowOf_3 : decode prog_14_method_24_code 3 = .ok (.iconst (0), 1) := by decide +kernel
theorem dM_nowOf_4 : decode prog_14_method_24_code 4 = .ok (.istore 5, 2) := by decide +kernel
theorem dM_nowOf_6 : decode prog_14_method_24_code 6 = .ok (.iload 5, 2) := by decide +kernel
theorem dM_nowOf_8 : decode prog_14_method_24_code 8 = .ok (.bipush (8), 2) := by decide +kernel
theorem dM_nowOf_10 : decode prog_14_method_24_code 10 = .ok (.if_icmp .ge (39), 3) := by decide +kernel
theorem dM_nowOf_13 : decode prog_14_method_24_code 13 = .ok (.iload 4, 2) := by decide +kernel
theorem dM_nowOf_15 : decode prog_14_method_24_code 15 = .ok (.aload_n 0, 1) := by decide +kernel
theorem dM_nowOf_16 : decode prog_14_method_24_code 16 = .ok (.getfield 17, 3) := by decide +kernel
theorem dM_nowOf_19 : decode prog_14_method_24_code 19 = .ok (.iload_n 1, 1) := by decide +kernel
theorem dM_nowOf_20 : decode prog_14_method_24_code 20 = .ok (.iload_n 2, 1) := by decide +kernel
theorem dM_nowOf_21 : decode prog_14_method_24_code 21 = .ok (.iload_n 3, 1) := by decide +kernel
theorem dM_nowOf_22 : decode prog_14_method_24_code 22 = .ok (.iload 5, 2) := by decide +kernel
theorem dM_nowOf_24 : decode prog_14_method_24_code 24 = .ok (.invokestatic 176, 3) := by decide +kernel
theorem dM_nowOf_27 : decode prog_14_method_24_code 27 = .ok (.iaload, 1) := by decide +kernel
theorem dM_nowOf_28 : decode prog_14_method_24_code 28 = .ok (.iconst (-1), 1) := by decide +kernel
theorem dM_nowOf_29 : decode prog_14_method_24_code 29 = .ok (.if_icmp .ne (7), 3) := by decide +kernel
theorem dM_nowOf_32 : decode prog_14_method_24_code 32 = .ok (.iconst (0), 1) := by decide +kernel
theorem dM_nowOf_33 : decode prog_14_method_24_code 33 = .ok (.goto (7), 3) := by decide +kernel
theorem dM_nowOf_36 : decode prog_14_method_24_code 36 = .ok (.iconst (1), 1) := by decide +kernel
theorem dM_nowOf_37 : decode prog_14_method_24_code 37 = .ok (.iload 5, 2) := by decide +kernel
theorem dM_nowOf_39 : decode prog_14_method_24_code 39 = .ok (.ishl, 1) := by decide +kernel
theorem dM_nowOf_40 : decode prog_14_method_24_code 40 = .ok (.ior, 1) := by decide +kernel
theorem dM_nowOf_41 : decode prog_14_method_24_code 41 = .ok (.istore 4, 2) := by decide +kernel
theorem dM_nowOf_43 : decode prog_14_method_24_code 43 = .ok (.iinc 5 (1), 3) := by decide +kernel
theorem dM_nowOf_46 : decode prog_14_method_24_code 46 = .ok (.goto (-40), 3) := by decide +kernel
theorem dM_nowOf_49 : decode prog_14_method_24_code 49 = .ok (.iload 4, 2) := by decide +kernel
theorem dM_nowOf_51 : decode prog_14_method_24_code 51 = .ok (.ireturn, 1) := by decide +kernel
theorem dM_usesOf_0 : decode prog_14_method_23_code 0 = .ok (.iconst (0), 1) := by decide +kernel
theorem dM_usesOf_1 : decode prog_14_method_23_code 1 = .ok (.istore_n 3, 1) := by decide +kernel
theorem dM_usesOf_2 : decode prog_14_method_23_code 2 = .ok (.iconst (0), 1) := by decide +kernel
theorem dM_usesOf_3 : decode prog_14_method_23_code 3 = .ok (.istore 4, 2) := by decide +kernel
theorem dM_usesOf_5 : decode prog_14_method_23_code 5 = .ok (.iload 4, 2) := by decide +kernel
theorem dM_usesOf_7 : decode prog_14_method_23_code 7 = .ok (.aload_n 0, 1) := by decide +kernel
theorem dM_usesOf_8 : decode prog_14_method_23_code 8 = .ok (.getfield 13, 3) := by decide +kernel
theorem dM_usesOf_11 : decode prog_14_method_23_code 11 = .ok (.iload_n 1, 1) := by decide +kernel
theorem dM_usesOf_12 : decode prog_14_method_23_code 12 = .ok (.iaload, 1) := by decide +kernel
theorem dM_usesOf_13 : decode prog_14_method_23_code 13 = .ok (.if_icmp .gt (20), 3) := by decide +kernel
theorem dM_usesOf_16 : decode prog_14_method_23_code 16 = .ok (.iload_n 3, 1) := by decide +kernel
theorem dM_usesOf_17 : decode prog_14_method_23_code 17 = .ok (.aload_n 0, 1) := by decide +kernel
theorem dM_usesOf_18 : decode prog_14_method_23_code 18 = .ok (.iload_n 1, 1) := by decide +kernel
theorem dM_usesOf_19 : decode prog_14_method_23_code 19 = .ok (.iload 4, 2) := by decide +kernel
theorem dM_usesOf_21 : decode prog_14_method_23_code 21 = .ok (.iload_n 2, 1) := by decide +kernel
theorem dM_usesOf_22 : decode prog_14_method_23_code 22 = .ok (.invokevirtual 188, 3) := by decide +kernel
theorem dM_usesOf_25 : decode prog_14_method_23_code 25 = .ok (.ior, 1) := by decide +kernel
theorem dM_usesOf_26 : decode prog_14_method_23_code 26 = .ok (.istore_n 3, 1) := by decide +kernel
theorem dM_usesOf_27 : decode prog_14_method_23_code 27 = .ok (.iinc 4 (1), 3) := by decide +kernel
theorem dM_usesOf_30 : decode prog_14_method_23_code 30 = .ok (.goto (-25), 3) := by decide +kernel
theorem dM_usesOf_33 : decode prog_14_method_23_code 33 = .ok (.iload_n 3, 1) := by decide +kernel
theorem dM_usesOf_34 : decode prog_14_method_23_code 34 = .ok (.ireturn, 1) := by decide +kernel
theorem dM_uses_0 : decode prog_14_method_25_code 0 = .ok (.aload_n 0, 1) := by decide +kernel
theorem dM_uses_1 : decode prog_14_method_25_code 1 = .ok (.iload_n 1, 1) := by decide +kernel
theorem dM_uses_2 : decode prog_14_method_25_code 2 = .ok (.invokevirtual 180, 3) := by decide +kernel
theorem dM_uses_5 : decode prog_14_method_25_code 5 = .ok (.ifCond .ne (8), 3) := by decide +kernel
theorem dM_uses_8 : decode prog_14_method_25_code 8 = .ok (.bipush (-101), 2) := by decide +kernel
theorem dM_uses_10 : decode prog_14_method_25_code 10 = .ok (.goto (23), 3) := by decide +kernel
theorem dM_uses_13 : decode prog_14_method_25_code 13 = .ok (.iload_n 2, 1) := by decide +kernel
theorem dM_uses_14 : decode prog_14_method_25_code 14 = .ok (.iconst (0), 1) := by decide +kernel
theorem dM_uses_15 : decode prog_14_method_25_code 15 = .ok (.iconst (1), 1) := by decide +kernel
theorem dM_uses_16 : decode prog_14_method_25_code 16 = .ok (.invokestatic 148, 3) := by decide +kernel
theorem dM_uses_19 : decode prog_14_method_25_code 19 = .ok (.ifCond .eq (12), 3) := by decide +kernel
theorem dM_uses_22 : decode prog_14_method_25_code 22 = .ok (.aload_n 0, 1) := by decide +kernel
theorem dM_uses_23 : decode prog_14_method_25_code 23 = .ok (.iload_n 1, 1) := by decide +kernel
theorem dM_uses_24 : decode prog_14_method_25_code 24 = .ok (.iload_n 2, 1) := by decide +kernel
theorem dM_uses_25 : decode prog_14_method_25_code 25 = .ok (.invokevirtual 192, 3) := by decide +kernel
theorem dM_uses_28 : decode prog_14_method_25_code 28 = .ok (.goto (5), 3) := by decide +kernel
theorem dM_uses_31 : decode prog_14_method_25_code 31 = .ok (.bipush (-102), 2) := by decide +kernel
theorem dM_uses_33 : decode prog_14_method_25_code 33 = .ok (.ireturn, 1) := by decide +kernel
theorem dWa_reach_0 : decode prog_11_method_10_code 0 = .ok (.iload_n 1, 1) := by decide +kernel
theorem dWa_reach_1 : decode prog_11_method_10_code 1 = .ok (.ldc 103, 2) := by decide +kernel
theorem dWa_reach_3 : decode prog_11_method_10_code 3 = .ok (.imul, 1) := by decide +kernel
theorem dWa_reach_4 : decode prog_11_method_10_code 4 = .ok (.bipush (19), 2) := by decide +kernel
theorem dWa_reach_6 : decode prog_11_method_10_code 6 = .ok (.iushr, 1) := by decide +kernel
theorem dWa_reach_7 : decode prog_11_method_10_code 7 = .ok (.istore 4, 2) := by decide +kernel
theorem dWa_reach_9 : decode prog_11_method_10_code 9 = .ok (.iconst (0), 1) := by decide +kernel
theorem dWa_reach_10 : decode prog_11_method_10_code 10 = .ok (.istore 5, 2) := by decide +kernel
theorem dWa_reach_12 : decode prog_11_method_10_code 12 = .ok (.iload 5, 2) := by decide +kernel
theorem dWa_reach_14 : decode prog_11_method_10_code 14 = .ok (.sipush (8192), 3) := by decide +kernel
theorem dWa_reach_17 : decode prog_11_method_10_code 17 = .ok (.if_icmp .ge (48), 3) := by decide +kernel
theorem dWa_reach_20 : decode prog_11_method_10_code 20 = .ok (.aload_n 0, 1) := by decide +kernel
theorem dWa_reach_21 : decode prog_11_method_10_code 21 = .ok (.getfield 21, 3) := by decide +kernel
theorem dWa_reach_24 : decode prog_11_method_10_code 24 = .ok (.iload 4, 2) := by decide +kernel
theorem dWa_reach_26 : decode prog_11_method_10_code 26 = .ok (.iaload, 1) := by decide +kernel
theorem dWa_reach_27 : decode prog_11_method_10_code 27 = .ok (.ifCond .eq (38), 3) := by decide +kernel
theorem dWa_reach_30 : decode prog_11_method_10_code 30 = .ok (.aload_n 0, 1) := by decide +kernel
theorem dWa_reach_31 : decode prog_11_method_10_code 31 = .ok (.getfield 9, 3) := by decide +kernel
theorem dWa_reach_34 : decode prog_11_method_10_code 34 = .ok (.aload_n 0, 1) := by decide +kernel
theorem dWa_reach_35 : decode prog_11_method_10_code 35 = .ok (.getfield 21, 3) := by decide +kernel
theorem dWa_reach_38 : decode prog_11_method_10_code 38 = .ok (.iload 4, 2) := by decide +kernel
theorem dWa_reach_40 : decode prog_11_method_10_code 40 = .ok (.iaload, 1) := by decide +kernel
theorem dWa_reach_41 : decode prog_11_method_10_code 41 = .ok (.iconst (1), 1) := by decide +kernel
theorem dWa_reach_42 : decode prog_11_method_10_code 42 = .ok (.isub, 1) := by decide +kernel
theorem dWa_reach_43 : decode prog_11_method_10_code 43 = .ok (.iaload, 1) := by decide +kernel
theorem dWa_reach_44 : decode prog_11_method_10_code 44 = .ok (.iload_n 1, 1) := by decide +kernel
theorem dWa_reach_45 : decode prog_11_method_10_code 45 = .ok (.if_icmp .ne (4), 3) := by decide +kernel
theorem dWa_reach_48 : decode prog_11_method_10_code 48 = .ok (.return_, 1) := by decide +kernel
theorem dWa_reach_49 : decode prog_11_method_10_code 49 = .ok (.iload 4, 2) := by decide +kernel
theorem dWa_reach_51 : decode prog_11_method_10_code 51 = .ok (.iconst (1), 1) := by decide +kernel
theorem dWa_reach_52 : decode prog_11_method_10_code 52 = .ok (.iadd, 1) := by decide +kernel
theorem dWa_reach_53 : decode prog_11_method_10_code 53 = .ok (.sipush (8191), 3) := by decide +kernel
theorem dWa_reach_56 : decode prog_11_method_10_code 56 = .ok (.iand, 1) := by decide +kernel
theorem dWa_reach_57 : decode prog_11_method_10_code 57 = .ok (.istore 4, 2) := by decide +kernel
theorem dWa_reach_59 : decode prog_11_method_10_code 59 = .ok (.iinc 5 (1), 3) := by decide +kernel
theorem dWa_reach_62 : decode prog_11_method_10_code 62 = .ok (.goto (-50), 3) := by decide +kernel
theorem dWa_reach_65 : decode prog_11_method_10_code 65 = .ok (.aload_n 0, 1) := by decide +kernel
theorem dWa_reach_66 : decode prog_11_method_10_code 66 = .ok (.getfield 38, 3) := by decide +kernel
theorem dWa_reach_69 : decode prog_11_method_10_code 69 = .ok (.sipush (4000), 3) := by decide +kernel
theorem dWa_reach_72 : decode prog_11_method_10_code 72 = .ok (.if_icmp .lt (9), 3) := by decide +kernel
theorem dWa_reach_75 : decode prog_11_method_10_code 75 = .ok (.aload_n 0, 1) := by decide +kernel
theorem dWa_reach_76 : decode prog_11_method_10_code 76 = .ok (.iconst (1), 1) := by decide +kernel
theorem dWa_reach_77 : decode prog_11_method_10_code 77 = .ok (.putfield 44, 3) := by decide +kernel
theorem dWa_reach_80 : decode prog_11_method_10_code 80 = .ok (.return_, 1) := by decide +kernel
theorem dWa_reach_81 : decode prog_11_method_10_code 81 = .ok (.aload_n 0, 1) := by decide +kernel
theorem dWa_reach_82 : decode prog_11_method_10_code 82 = .ok (.getfield 9, 3) := by decide +kernel
theorem dWa_reach_85 : decode prog_11_method_10_code 85 = .ok (.aload_n 0, 1) := by decide +kernel
theorem dWa_reach_86 : decode prog_11_method_10_code 86 = .ok (.getfield 38, 3) := by decide +kernel
theorem dWa_reach_89 : decode prog_11_method_10_code 89 = .ok (.iload_n 1, 1) := by decide +kernel
theorem dWa_reach_90 : decode prog_11_method_10_code 90 = .ok (.iastore, 1) := by decide +kernel
theorem dWa_reach_91 : decode prog_11_method_10_code 91 = .ok (.aload_n 0, 1) := by decide +kernel
theorem dWa_reach_92 : decode prog_11_method_10_code 92 = .ok (.getfield 15, 3) := by decide +kernel
theorem dWa_reach_95 : decode prog_11_method_10_code 95 = .ok (.aload_n 0, 1) := by decide +kernel
theorem dWa_reach_96 : decode prog_11_method_10_code 96 = .ok (.getfield 38, 3) := by decide +kernel
theorem dWa_reach_99 : decode prog_11_method_10_code 99 = .ok (.iload_n 2, 1) := by decide +kernel
theorem dWa_reach_100 : decode prog_11_method_10_code 100 = .ok (.iastore, 1) := by decide +kernel
theorem dWa_reach_101 : decode prog_11_method_10_code 101 = .ok (.aload_n 0, 1) := by decide +kernel
theorem dWa_reach_102 : decode prog_11_method_10_code 102 = .ok (.getfield 18, 3) := by decide +kernel
theorem dWa_reach_105 : decode prog_11_method_10_code 105 = .ok (.aload_n 0, 1) := by decide +kernel
