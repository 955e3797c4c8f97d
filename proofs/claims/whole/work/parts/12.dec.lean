theorem dWa_reach_106 : decode prog_11_method_10_code 106 = .ok (.getfield 38, 3) := by decide +kernel
theorem dWa_reach_109 : decode prog_11_method_10_code 109 = .ok (.iload_n 3, 1) := by decide +kernel
theorem dWa_reach_110 : decode prog_11_method_10_code 110 = .ok (.iastore, 1) := by decide +kernel
theorem dWa_reach_111 : decode prog_11_method_10_code 111 = .ok (.aload_n 0, 1) := by decide +kernel
theorem dWa_reach_112 : decode prog_11_method_10_code 112 = .ok (.dup, 1) := by decide +kernel
theorem dWa_reach_113 : decode prog_11_method_10_code 113 = .ok (.getfield 38, 3) := by decide +kernel
theorem dWa_reach_116 : decode prog_11_method_10_code 116 = .ok (.iconst (1), 1) := by decide +kernel
theorem dWa_reach_117 : decode prog_11_method_10_code 117 = .ok (.iadd, 1) := by decide +kernel
theorem dWa_reach_118 : decode prog_11_method_10_code 118 = .ok (.putfield 38, 3) := by decide +kernel
theorem dWa_reach_121 : decode prog_11_method_10_code 121 = .ok (.aload_n 0, 1) := by decide +kernel
theorem dWa_reach_122 : decode prog_11_method_10_code 122 = .ok (.getfield 21, 3) := by decide +kernel
theorem dWa_reach_125 : decode prog_11_method_10_code 125 = .ok (.iload 4, 2) := by decide +kernel
theorem dWa_reach_127 : decode prog_11_method_10_code 127 = .ok (.aload_n 0, 1) := by decide +kernel
theorem dWa_reach_128 : decode prog_11_method_10_code 128 = .ok (.getfield 38, 3) := by decide +kernel
theorem dWa_reach_131 : decode prog_11_method_10_code 131 = .ok (.iastore, 1) := by decide +kernel
theorem dWa_reach_132 : decode prog_11_method_10_code 132 = .ok (.return_, 1) := by decide +kernel
theorem dWa_place_0 : decode prog_11_method_9_code 0 = .ok (.iload_n 0, 1) := by decide +kernel
theorem dWa_place_1 : decode prog_11_method_9_code 1 = .ok (.iload_n 1, 1) := by decide +kernel
theorem dWa_place_2 : decode prog_11_method_9_code 2 = .ok (.iconst (5), 1) := by decide +kernel
theorem dWa_place_3 : decode prog_11_method_9_code 3 = .ok (.ishl, 1) := by decide +kernel
theorem dWa_place_4 : decode prog_11_method_9_code 4 = .ok (.ior, 1) := by decide +kernel
theorem dWa_place_5 : decode prog_11_method_9_code 5 = .ok (.iload_n 2, 1) := by decide +kernel
theorem dWa_place_6 : decode prog_11_method_9_code 6 = .ok (.bipush (10), 2) := by decide +kernel
theorem dWa_place_8 : decode prog_11_method_9_code 8 = .ok (.ishl, 1) := by decide +kernel
theorem dWa_place_9 : decode prog_11_method_9_code 9 = .ok (.ior, 1) := by decide +kernel
theorem dWa_place_10 : decode prog_11_method_9_code 10 = .ok (.iload_n 3, 1) := by decide +kernel
theorem dWa_place_11 : decode prog_11_method_9_code 11 = .ok (.bipush (18), 2) := by decide +kernel
theorem dWa_place_13 : decode prog_11_method_9_code 13 = .ok (.ishl, 1) := by decide +kernel
theorem dWa_place_14 : decode prog_11_method_9_code 14 = .ok (.ior, 1) := by decide +kernel
theorem dWa_place_15 : decode prog_11_method_9_code 15 = .ok (.ireturn, 1) := by decide +kernel
theorem dWa_passFrom_0 : decode prog_11_method_4_code 0 = .ok (.aload_n 0, 1) := by decide +kernel
theorem dWa_passFrom_1 : decode prog_11_method_4_code 1 = .ok (.getfield 9, 3) := by decide +kernel
theorem dWa_passFrom_4 : decode prog_11_method_4_code 4 = .ok (.iload_n 1, 1) := by decide +kernel
theorem dWa_passFrom_5 : decode prog_11_method_4_code 5 = .ok (.iaload, 1) := by decide +kernel
theorem dWa_passFrom_6 : decode prog_11_method_4_code 6 = .ok (.bipush (31), 2) := by decide +kernel
theorem dWa_passFrom_8 : decode prog_11_method_4_code 8 = .ok (.iand, 1) := by decide +kernel
theorem dWa_passFrom_9 : decode prog_11_method_4_code 9 = .ok (.istore_n 2, 1) := by decide +kernel
theorem dWa_passFrom_10 : decode prog_11_method_4_code 10 = .ok (.aload_n 0, 1) := by decide +kernel
theorem dWa_passFrom_11 : decode prog_11_method_4_code 11 = .ok (.getfield 9, 3) := by decide +kernel
theorem dWa_passFrom_14 : decode prog_11_method_4_code 14 = .ok (.iload_n 1, 1) := by decide +kernel
theorem dWa_passFrom_15 : decode prog_11_method_4_code 15 = .ok (.iaload, 1) := by decide +kernel
theorem dWa_passFrom_16 : decode prog_11_method_4_code 16 = .ok (.iconst (5), 1) := by decide +kernel
theorem dWa_passFrom_17 : decode prog_11_method_4_code 17 = .ok (.ishr, 1) := by decide +kernel
theorem dWa_passFrom_18 : decode prog_11_method_4_code 18 = .ok (.bipush (31), 2) := by decide +kernel
theorem dWa_passFrom_20 : decode prog_11_method_4_code 20 = .ok (.iand, 1) := by decide +kernel
theorem dWa_passFrom_21 : decode prog_11_method_4_code 21 = .ok (.istore_n 3, 1) := by decide +kernel
theorem dWa_passFrom_22 : decode prog_11_method_4_code 22 = .ok (.aload_n 0, 1) := by decide +kernel
theorem dWa_passFrom_23 : decode prog_11_method_4_code 23 = .ok (.getfield 27, 3) := by decide +kernel
theorem dWa_passFrom_26 : decode prog_11_method_4_code 26 = .ok (.getfield 69, 3) := by decide +kernel
theorem dWa_passFrom_29 : decode prog_11_method_4_code 29 = .ok (.iload_n 2, 1) := by decide +kernel
theorem dWa_passFrom_30 : decode prog_11_method_4_code 30 = .ok (.iaload, 1) := by decide +kernel
theorem dWa_passFrom_31 : decode prog_11_method_4_code 31 = .ok (.aload_n 0, 1) := by decide +kernel
theorem dWa_passFrom_32 : decode prog_11_method_4_code 32 = .ok (.getfield 31, 3) := by decide +kernel
theorem dWa_passFrom_35 : decode prog_11_method_4_code 35 = .ok (.getfield 74, 3) := by decide +kernel
theorem dWa_passFrom_38 : decode prog_11_method_4_code 38 = .ok (.iload_n 3, 1) := by decide +kernel
theorem dWa_passFrom_39 : decode prog_11_method_4_code 39 = .ok (.iaload, 1) := by decide +kernel
theorem dWa_passFrom_40 : decode prog_11_method_4_code 40 = .ok (.iand, 1) := by decide +kernel
theorem dWa_passFrom_41 : decode prog_11_method_4_code 41 = .ok (.istore 4, 2) := by decide +kernel
theorem dWa_passFrom_43 : decode prog_11_method_4_code 43 = .ok (.aload_n 0, 1) := by decide +kernel
theorem dWa_passFrom_44 : decode prog_11_method_4_code 44 = .ok (.getfield 31, 3) := by decide +kernel
theorem dWa_passFrom_47 : decode prog_11_method_4_code 47 = .ok (.getfield 69, 3) := by decide +kernel
theorem dWa_passFrom_50 : decode prog_11_method_4_code 50 = .ok (.iload_n 3, 1) := by decide +kernel
theorem dWa_passFrom_51 : decode prog_11_method_4_code 51 = .ok (.iaload, 1) := by decide +kernel
theorem dWa_passFrom_52 : decode prog_11_method_4_code 52 = .ok (.aload_n 0, 1) := by decide +kernel
theorem dWa_passFrom_53 : decode prog_11_method_4_code 53 = .ok (.getfield 27, 3) := by decide +kernel
theorem dWa_passFrom_56 : decode prog_11_method_4_code 56 = .ok (.getfield 74, 3) := by decide +kernel
theorem dWa_passFrom_59 : decode prog_11_method_4_code 59 = .ok (.iload_n 2, 1) := by decide +kernel
theorem dWa_passFrom_60 : decode prog_11_method_4_code 60 = .ok (.iaload, 1) := by decide +kernel
theorem dWa_passFrom_61 : decode prog_11_method_4_code 61 = .ok (.iand, 1) := by decide +kernel
theorem dWa_passFrom_62 : decode prog_11_method_4_code 62 = .ok (.istore 5, 2) := by decide +kernel
theorem dWa_passFrom_64 : decode prog_11_method_4_code 64 = .ok (.iconst (0), 1) := by decide +kernel
theorem dWa_passFrom_65 : decode prog_11_method_4_code 65 = .ok (.istore 6, 2) := by decide +kernel
theorem dWa_passFrom_67 : decode prog_11_method_4_code 67 = .ok (.iload 6, 2) := by decide +kernel
theorem dWa_passFrom_69 : decode prog_11_method_4_code 69 = .ok (.bipush (8), 2) := by decide +kernel
theorem dWa_passFrom_71 : decode prog_11_method_4_code 71 = .ok (.if_icmp .ge (103), 3) := by decide +kernel
theorem dWa_passFrom_74 : decode prog_11_method_4_code 74 = .ok (.iload 4, 2) := by decide +kernel
theorem dWa_passFrom_76 : decode prog_11_method_4_code 76 = .ok (.iload 6, 2) := by decide +kernel
theorem dWa_passFrom_78 : decode prog_11_method_4_code 78 = .ok (.invokestatic 77, 3) := by decide +kernel
theorem dWa_passFrom_81 : decode prog_11_method_4_code 81 = .ok (.ifCond .eq (39), 3) := by decide +kernel
theorem dWa_passFrom_84 : decode prog_11_method_4_code 84 = .ok (.aload_n 0, 1) := by decide +kernel
theorem dWa_passFrom_85 : decode prog_11_method_4_code 85 = .ok (.aload_n 0, 1) := by decide +kernel
theorem dWa_passFrom_86 : decode prog_11_method_4_code 86 = .ok (.getfield 27, 3) := by decide +kernel
theorem dWa_passFrom_89 : decode prog_11_method_4_code 89 = .ok (.iload_n 2, 1) := by decide +kernel
theorem dWa_passFrom_90 : decode prog_11_method_4_code 90 = .ok (.iconst (1), 1) := by decide +kernel
theorem dWa_passFrom_91 : decode prog_11_method_4_code 91 = .ok (.iload 6, 2) := by decide +kernel
theorem dWa_passFrom_93 : decode prog_11_method_4_code 93 = .ok (.invokevirtual 81, 3) := by decide +kernel
theorem dWa_passFrom_96 : decode prog_11_method_4_code 96 = .ok (.aload_n 0, 1) := by decide +kernel
theorem dWa_passFrom_97 : decode prog_11_method_4_code 97 = .ok (.getfield 31, 3) := by decide +kernel
theorem dWa_passFrom_100 : decode prog_11_method_4_code 100 = .ok (.iload_n 3, 1) := by decide +kernel
theorem dWa_passFrom_101 : decode prog_11_method_4_code 101 = .ok (.iconst (0), 1) := by decide +kernel
theorem dWa_passFrom_102 : decode prog_11_method_4_code 102 = .ok (.iload 6, 2) := by decide +kernel
theorem dWa_passFrom_104 : decode prog_11_method_4_code 104 = .ok (.invokevirtual 81, 3) := by decide +kernel
theorem dWa_passFrom_107 : decode prog_11_method_4_code 107 = .ok (.iconst (0), 1) := by decide +kernel
theorem dWa_passFrom_108 : decode prog_11_method_4_code 108 = .ok (.iconst (0), 1) := by decide +kernel
theorem dWa_passFrom_109 : decode prog_11_method_4_code 109 = .ok (.invokestatic 85, 3) := by decide +kernel
theorem dWa_passFrom_112 : decode prog_11_method_4_code 112 = .ok (.iload_n 1, 1) := by decide +kernel
theorem dWa_passFrom_113 : decode prog_11_method_4_code 113 = .ok (.iconst (2), 1) := by decide +kernel
theorem dWa_passFrom_114 : decode prog_11_method_4_code 114 = .ok (.iload 6, 2) := by decide +kernel
theorem dWa_passFrom_116 : decode prog_11_method_4_code 116 = .ok (.imul, 1) := by decide +kernel
theorem dWa_passFrom_117 : decode prog_11_method_4_code 117 = .ok (.invokevirtual 54, 3) := by decide +kernel
theorem dWa_passFrom_120 : decode prog_11_method_4_code 120 = .ok (.iload 5, 2) := by decide +kernel
theorem dWa_passFrom_122 : decode prog_11_method_4_code 122 = .ok (.iload 6, 2) := by decide +kernel
theorem dWa_passFrom_124 : decode prog_11_method_4_code 124 = .ok (.invokestatic 77, 3) := by decide +kernel
theorem dWa_passFrom_127 : decode prog_11_method_4_code 127 = .ok (.ifCond .eq (41), 3) := by decide +kernel
theorem dWa_passFrom_130 : decode prog_11_method_4_code 130 = .ok (.aload_n 0, 1) := by decide +kernel
theorem dWa_passFrom_131 : decode prog_11_method_4_code 131 = .ok (.aload_n 0, 1) := by decide +kernel
theorem dWa_passFrom_132 : decode prog_11_method_4_code 132 = .ok (.getfield 27, 3) := by decide +kernel
theorem dWa_passFrom_135 : decode prog_11_method_4_code 135 = .ok (.iload_n 2, 1) := by decide +kernel
theorem dWa_passFrom_136 : decode prog_11_method_4_code 136 = .ok (.iconst (0), 1) := by decide +kernel
theorem dWa_passFrom_137 : decode prog_11_method_4_code 137 = .ok (.iload 6, 2) := by decide +kernel
theorem dWa_passFrom_139 : decode prog_11_method_4_code 139 = .ok (.invokevirtual 81, 3) := by decide +kernel
theorem dWa_passFrom_142 : decode prog_11_method_4_code 142 = .ok (.aload_n 0, 1) := by decide +kernel
theorem dWa_passFrom_143 : decode prog_11_method_4_code 143 = .ok (.getfield 31, 3) := by decide +kernel
theorem dWa_passFrom_146 : decode prog_11_method_4_code 146 = .ok (.iload_n 3, 1) := by decide +kernel
theorem dWa_passFrom_147 : decode prog_11_method_4_code 147 = .ok (.iconst (1), 1) := by decide +kernel
theorem dWa_passFrom_148 : decode prog_11_method_4_code 148 = .ok (.iload 6, 2) := by decide +kernel
theorem dWa_passFrom_150 : decode prog_11_method_4_code 150 = .ok (.invokevirtual 81, 3) := by decide +kernel
theorem dWa_passFrom_153 : decode prog_11_method_4_code 153 = .ok (.iconst (0), 1) := by decide +kernel
theorem dWa_passFrom_154 : decode prog_11_method_4_code 154 = .ok (.iconst (0), 1) := by decide +kernel
theorem dWa_passFrom_155 : decode prog_11_method_4_code 155 = .ok (.invokestatic 85, 3) := by decide +kernel
theorem dWa_passFrom_158 : decode prog_11_method_4_code 158 = .ok (.iload_n 1, 1) := by decide +kernel
theorem dWa_passFrom_159 : decode prog_11_method_4_code 159 = .ok (.iconst (2), 1) := by decide +kernel
theorem dWa_passFrom_160 : decode prog_11_method_4_code 160 = .ok (.iload 6, 2) := by decide +kernel
theorem dWa_passFrom_162 : decode prog_11_method_4_code 162 = .ok (.imul, 1) := by decide +kernel
theorem dWa_passFrom_163 : decode prog_11_method_4_code 163 = .ok (.iconst (1), 1) := by decide +kernel
theorem dWa_passFrom_164 : decode prog_11_method_4_code 164 = .ok (.iadd, 1) := by decide +kernel
theorem dWa_passFrom_165 : decode prog_11_method_4_code 165 = .ok (.invokevirtual 54, 3) := by decide +kernel
theorem dWa_passFrom_168 : decode prog_11_method_4_code 168 = .ok (.iinc 6 (1), 3) := by decide +kernel
theorem dWa_passFrom_171 : decode prog_11_method_4_code 171 = .ok (.goto (-104), 3) := by decide +kernel
theorem dWa_passFrom_174 : decode prog_11_method_4_code 174 = .ok (.iload 4, 2) := by decide +kernel
theorem dWa_passFrom_176 : decode prog_11_method_4_code 176 = .ok (.aload_n 0, 1) := by decide +kernel
theorem dWa_passFrom_177 : decode prog_11_method_4_code 177 = .ok (.getfield 27, 3) := by decide +kernel
theorem dWa_passFrom_180 : decode prog_11_method_4_code 180 = .ok (.getfield 69, 3) := by decide +kernel
theorem dWa_passFrom_183 : decode prog_11_method_4_code 183 = .ok (.iload_n 2, 1) := by decide +kernel
theorem dWa_passFrom_184 : decode prog_11_method_4_code 184 = .ok (.iaload, 1) := by decide +kernel
theorem dWa_passFrom_185 : decode prog_11_method_4_code 185 = .ok (.if_icmp .ne (17), 3) := by decide +kernel
theorem dWa_passFrom_188 : decode prog_11_method_4_code 188 = .ok (.iload 5, 2) := by decide +kernel
theorem dWa_passFrom_190 : decode prog_11_method_4_code 190 = .ok (.aload_n 0, 1) := by decide +kernel
theorem dWa_passFrom_191 : decode prog_11_method_4_code 191 = .ok (.getfield 31, 3) := by decide +kernel
theorem dWa_passFrom_194 : decode prog_11_method_4_code 194 = .ok (.getfield 69, 3) := by decide +kernel
theorem dWa_passFrom_197 : decode prog_11_method_4_code 197 = .ok (.iload_n 3, 1) := by decide +kernel
theorem dWa_passFrom_198 : decode prog_11_method_4_code 198 = .ok (.iaload, 1) := by decide +kernel
theorem dWa_passFrom_199 : decode prog_11_method_4_code 199 = .ok (.if_icmp .eq (5), 3) := by decide +kernel
theorem dWa_passFrom_202 : decode prog_11_method_4_code 202 = .ok (.iconst (2), 1) := by decide +kernel
theorem dWa_passFrom_203 : decode prog_11_method_4_code 203 = .ok (.ireturn, 1) := by decide +kernel
theorem dWa_passFrom_204 : decode prog_11_method_4_code 204 = .ok (.aload_n 0, 1) := by decide +kernel
theorem dWa_passFrom_205 : decode prog_11_method_4_code 205 = .ok (.getfield 27, 3) := by decide +kernel
theorem dWa_passFrom_208 : decode prog_11_method_4_code 208 = .ok (.iload_n 2, 1) := by decide +kernel
theorem dWa_passFrom_209 : decode prog_11_method_4_code 209 = .ok (.invokevirtual 89, 3) := by decide +kernel
theorem dWa_passFrom_212 : decode prog_11_method_4_code 212 = .ok (.ifCond .eq (18), 3) := by decide +kernel
theorem dWa_passFrom_215 : decode prog_11_method_4_code 215 = .ok (.aload_n 0, 1) := by decide +kernel
theorem dWa_passFrom_216 : decode prog_11_method_4_code 216 = .ok (.getfield 31, 3) := by decide +kernel
theorem dWa_passFrom_219 : decode prog_11_method_4_code 219 = .ok (.iload_n 3, 1) := by decide +kernel
theorem dWa_passFrom_220 : decode prog_11_method_4_code 220 = .ok (.invokevirtual 89, 3) := by decide +kernel
theorem dWa_passFrom_223 : decode prog_11_method_4_code 223 = .ok (.ifCond .eq (7), 3) := by decide +kernel
theorem dWa_passFrom_226 : decode prog_11_method_4_code 226 = .ok (.iconst (1), 1) := by decide +kernel
theorem dWa_passFrom_227 : decode prog_11_method_4_code 227 = .ok (.goto (4), 3) := by decide +kernel
theorem dWa_passFrom_230 : decode prog_11_method_4_code 230 = .ok (.iconst (0), 1) := by decide +kernel
theorem dWa_passFrom_231 : decode prog_11_method_4_code 231 = .ok (.istore 6, 2) := by decide +kernel
theorem dWa_passFrom_233 : decode prog_11_method_4_code 233 = .ok (.iload 4, 2) := by decide +kernel
theorem dWa_passFrom_235 : decode prog_11_method_4_code 235 = .ok (.iload 5, 2) := by decide +kernel
theorem dWa_passFrom_237 : decode prog_11_method_4_code 237 = .ok (.ior, 1) := by decide +kernel
theorem dWa_passFrom_238 : decode prog_11_method_4_code 238 = .ok (.ifCond .ne (12), 3) := by decide +kernel
theorem dWa_passFrom_241 : decode prog_11_method_4_code 241 = .ok (.iload 6, 2) := by decide +kernel
theorem dWa_passFrom_243 : decode prog_11_method_4_code 243 = .ok (.ifCond .ne (7), 3) := by decide +kernel
theorem dWa_passFrom_246 : decode prog_11_method_4_code 246 = .ok (.iconst (1), 1) := by decide +kernel
theorem dWa_passFrom_247 : decode prog_11_method_4_code 247 = .ok (.goto (4), 3) := by decide +kernel
theorem dWa_passFrom_250 : decode prog_11_method_4_code 250 = .ok (.iconst (0), 1) := by decide +kernel
theorem dWa_passFrom_251 : decode prog_11_method_4_code 251 = .ok (.ireturn, 1) := by decide +kernel
theorem dWa_hasRoom_0 : decode prog_11_method_6_code 0 = .ok (.aload_n 0, 1) := by decide +kernel
theorem dWa_hasRoom_1 : decode prog_11_method_6_code 1 = .ok (.getfield 34, 3) := by decide +kernel
theorem dWa_hasRoom_4 : decode prog_11_method_6_code 4 = .ok (.iconst (1), 1) := by decide +kernel
theorem dWa_hasRoom_5 : decode prog_11_method_6_code 5 = .ok (.if_icmp .ne (15), 3) := by decide +kernel
theorem dWa_hasRoom_8 : decode prog_11_method_6_code 8 = .ok (.iload_n 1, 1) := by decide +kernel
theorem dWa_hasRoom_9 : decode prog_11_method_6_code 9 = .ok (.ifCond .ne (7), 3) := by decide +kernel
theorem dWa_hasRoom_12 : decode prog_11_method_6_code 12 = .ok (.iconst (1), 1) := by decide +kernel
theorem dWa_hasRoom_13 : decode prog_11_method_6_code 13 = .ok (.goto (18), 3) := by decide +kernel
theorem dWa_hasRoom_16 : decode prog_11_method_6_code 16 = .ok (.iconst (0), 1) := by decide +kernel
theorem dWa_hasRoom_17 : decode prog_11_method_6_code 17 = .ok (.goto (14), 3) := by decide +kernel
theorem dWa_hasRoom_20 : decode prog_11_method_6_code 20 = .ok (.iload_n 1, 1) := by decide +kernel
theorem dWa_hasRoom_21 : decode prog_11_method_6_code 21 = .ok (.bipush (16), 2) := by decide +kernel
theorem dWa_hasRoom_23 : decode prog_11_method_6_code 23 = .ok (.if_icmp .ge (7), 3) := by decide +kernel
theorem dWa_hasRoom_26 : decode prog_11_method_6_code 26 = .ok (.iconst (1), 1) := by decide +kernel
theorem dWa_hasRoom_27 : decode prog_11_method_6_code 27 = .ok (.goto (4), 3) := by decide +kernel
theorem dWa_hasRoom_30 : decode prog_11_method_6_code 30 = .ok (.iconst (0), 1) := by decide +kernel
theorem dWa_hasRoom_31 : decode prog_11_method_6_code 31 = .ok (.ireturn, 1) := by decide +kernel
theorem dWa_front_0 : decode prog_11_method_8_code 0 = .ok (.iconst (1), 1) := by decide +kernel
theorem dWa_front_1 : decode prog_11_method_8_code 1 = .ok (.iload_n 0, 1) := by decide +kernel
theorem dWa_front_2 : decode prog_11_method_8_code 2 = .ok (.bipush (15), 2) := by decide +kernel
theorem dWa_front_4 : decode prog_11_method_8_code 4 = .ok (.iand, 1) := by decide +kernel
theorem dWa_front_5 : decode prog_11_method_8_code 5 = .ok (.ishl, 1) := by decide +kernel
theorem dWa_front_6 : decode prog_11_method_8_code 6 = .ok (.iconst (1), 1) := by decide +kernel
theorem dWa_front_7 : decode prog_11_method_8_code 7 = .ok (.ishr, 1) := by decide +kernel
theorem dWa_front_8 : decode prog_11_method_8_code 8 = .ok (.ireturn, 1) := by decide +kernel
theorem dWa_longer_0 : decode prog_11_method_7_code 0 = .ok (.iload_n 0, 1) := by decide +kernel
theorem dWa_longer_1 : decode prog_11_method_7_code 1 = .ok (.ifCond .ne (9), 3) := by decide +kernel
theorem dWa_longer_4 : decode prog_11_method_7_code 4 = .ok (.iload_n 1, 1) := by decide +kernel
theorem dWa_longer_5 : decode prog_11_method_7_code 5 = .ok (.iconst (1), 1) := by decide +kernel
theorem dWa_longer_6 : decode prog_11_method_7_code 6 = .ok (.iadd, 1) := by decide +kernel
theorem dWa_longer_7 : decode prog_11_method_7_code 7 = .ok (.goto (10), 3) := by decide +kernel
theorem dWa_longer_10 : decode prog_11_method_7_code 10 = .ok (.iload_n 0, 1) := by decide +kernel
theorem dWa_longer_11 : decode prog_11_method_7_code 11 = .ok (.iload_n 1, 1) := by decide +kernel
theorem dWa_longer_12 : decode prog_11_method_7_code 12 = .ok (.iconst (1), 1) := by decide +kernel
theorem dWa_longer_13 : decode prog_11_method_7_code 13 = .ok (.iadd, 1) := by decide +kernel
theorem dWa_longer_14 : decode prog_11_method_7_code 14 = .ok (.iconst (4), 1) := by decide +kernel
theorem dWa_longer_15 : decode prog_11_method_7_code 15 = .ok (.ishl, 1) := by decide +kernel
theorem dWa_longer_16 : decode prog_11_method_7_code 16 = .ok (.ior, 1) := by decide +kernel
theorem dWa_longer_17 : decode prog_11_method_7_code 17 = .ok (.ireturn, 1) := by decide +kernel
theorem dWa_actFrom_0 : decode prog_11_method_5_code 0 = .ok (.aload_n 0, 1) := by decide +kernel
theorem dWa_actFrom_1 : decode prog_11_method_5_code 1 = .ok (.getfield 9, 3) := by decide +kernel
theorem dWa_actFrom_4 : decode prog_11_method_5_code 4 = .ok (.iload_n 1, 1) := by decide +kernel
theorem dWa_actFrom_5 : decode prog_11_method_5_code 5 = .ok (.iaload, 1) := by decide +kernel
theorem dWa_actFrom_6 : decode prog_11_method_5_code 6 = .ok (.bipush (31), 2) := by decide +kernel
theorem dWa_actFrom_8 : decode prog_11_method_5_code 8 = .ok (.iand, 1) := by decide +kernel
theorem dWa_actFrom_9 : decode prog_11_method_5_code 9 = .ok (.istore_n 2, 1) := by decide +kernel
theorem dWa_actFrom_10 : decode prog_11_method_5_code 10 = .ok (.aload_n 0, 1) := by decide +kernel
theorem dWa_actFrom_11 : decode prog_11_method_5_code 11 = .ok (.getfield 9, 3) := by decide +kernel
theorem dWa_actFrom_14 : decode prog_11_method_5_code 14 = .ok (.iload_n 1, 1) := by decide +kernel
theorem dWa_actFrom_15 : decode prog_11_method_5_code 15 = .ok (.iaload, 1) := by decide +kernel
theorem dWa_actFrom_16 : decode prog_11_method_5_code 16 = .ok (.iconst (5), 1) := by decide +kernel
theorem dWa_actFrom_17 : decode prog_11_method_5_code 17 = .ok (.ishr, 1) := by decide +kernel
theorem dWa_actFrom_18 : decode prog_11_method_5_code 18 = .ok (.bipush (31), 2) := by decide +kernel
theorem dWa_actFrom_20 : decode prog_11_method_5_code 20 = .ok (.iand, 1) := by decide +kernel
theorem dWa_actFrom_21 : decode prog_11_method_5_code 21 = .ok (.istore_n 3, 1) := by decide +kernel
theorem dWa_actFrom_22 : decode prog_11_method_5_code 22 = .ok (.aload_n 0, 1) := by decide +kernel
theorem dWa_actFrom_23 : decode prog_11_method_5_code 23 = .ok (.getfield 9, 3) := by decide +kernel
theorem dWa_actFrom_26 : decode prog_11_method_5_code 26 = .ok (.iload_n 1, 1) := by decide +kernel
theorem dWa_actFrom_27 : decode prog_11_method_5_code 27 = .ok (.iaload, 1) := by decide +kernel
theorem dWa_actFrom_28 : decode prog_11_method_5_code 28 = .ok (.bipush (10), 2) := by decide +kernel
theorem dWa_actFrom_30 : decode prog_11_method_5_code 30 = .ok (.ishr, 1) := by decide +kernel
theorem dWa_actFrom_31 : decode prog_11_method_5_code 31 = .ok (.sipush (255), 3) := by decide +kernel
theorem dWa_actFrom_34 : decode prog_11_method_5_code 34 = .ok (.iand, 1) := by decide +kernel
theorem dWa_actFrom_35 : decode prog_11_method_5_code 35 = .ok (.istore 4, 2) := by decide +kernel
theorem dWa_actFrom_37 : decode prog_11_method_5_code 37 = .ok (.aload_n 0, 1) := by decide +kernel
theorem dWa_actFrom_38 : decode prog_11_method_5_code 38 = .ok (.getfield 9, 3) := by decide +kernel
theorem dWa_actFrom_41 : decode prog_11_method_5_code 41 = .ok (.iload_n 1, 1) := by decide +kernel
theorem dWa_actFrom_42 : decode prog_11_method_5_code 42 = .ok (.iaload, 1) := by decide +kernel
theorem dWa_actFrom_43 : decode prog_11_method_5_code 43 = .ok (.bipush (18), 2) := by decide +kernel
theorem dWa_actFrom_45 : decode prog_11_method_5_code 45 = .ok (.ishr, 1) := by decide +kernel
theorem dWa_actFrom_46 : decode prog_11_method_5_code 46 = .ok (.sipush (255), 3) := by decide +kernel
theorem dWa_actFrom_49 : decode prog_11_method_5_code 49 = .ok (.iand, 1) := by decide +kernel
theorem dWa_actFrom_50 : decode prog_11_method_5_code 50 = .ok (.istore 5, 2) := by decide +kernel
theorem dWa_actFrom_52 : decode prog_11_method_5_code 52 = .ok (.aload_n 0, 1) := by decide +kernel
theorem dWa_actFrom_53 : decode prog_11_method_5_code 53 = .ok (.iload 4, 2) := by decide +kernel
theorem dWa_actFrom_55 : decode prog_11_method_5_code 55 = .ok (.invokevirtual 93, 3) := by decide +kernel
theorem dWa_actFrom_58 : decode prog_11_method_5_code 58 = .ok (.ifCond .eq (15), 3) := by decide +kernel
theorem dWa_actFrom_61 : decode prog_11_method_5_code 61 = .ok (.aload_n 0, 1) := by decide +kernel
theorem dWa_actFrom_62 : decode prog_11_method_5_code 62 = .ok (.getfield 27, 3) := by decide +kernel
theorem dWa_actFrom_65 : decode prog_11_method_5_code 65 = .ok (.getfield 69, 3) := by decide +kernel
theorem dWa_actFrom_68 : decode prog_11_method_5_code 68 = .ok (.iload_n 2, 1) := by decide +kernel
theorem dWa_actFrom_69 : decode prog_11_method_5_code 69 = .ok (.iaload, 1) := by decide +kernel
theorem dWa_actFrom_70 : decode prog_11_method_5_code 70 = .ok (.goto (4), 3) := by decide +kernel
theorem dWa_actFrom_73 : decode prog_11_method_5_code 73 = .ok (.iconst (0), 1) := by decide +kernel
theorem dWa_actFrom_74 : decode prog_11_method_5_code 74 = .ok (.istore 6, 2) := by decide +kernel
theorem dWa_actFrom_76 : decode prog_11_method_5_code 76 = .ok (.aload_n 0, 1) := by decide +kernel
theorem dWa_actFrom_77 : decode prog_11_method_5_code 77 = .ok (.iload 5, 2) := by decide +kernel
theorem dWa_actFrom_79 : decode prog_11_method_5_code 79 = .ok (.invokevirtual 93, 3) := by decide +kernel
theorem dWa_actFrom_82 : decode prog_11_method_5_code 82 = .ok (.ifCond .eq (15), 3) := by decide +kernel
theorem dWa_actFrom_85 : decode prog_11_method_5_code 85 = .ok (.aload_n 0, 1) := by decide +kernel
theorem dWa_actFrom_86 : decode prog_11_method_5_code 86 = .ok (.getfield 31, 3) := by decide +kernel
theorem dWa_actFrom_89 : decode prog_11_method_5_code 89 = .ok (.getfield 69, 3) := by decide +kernel
theorem dWa_actFrom_92 : decode prog_11_method_5_code 92 = .ok (.iload_n 3, 1) := by decide +kernel
theorem dWa_actFrom_93 : decode prog_11_method_5_code 93 = .ok (.iaload, 1) := by decide +kernel
theorem dWa_actFrom_94 : decode prog_11_method_5_code 94 = .ok (.goto (4), 3) := by decide +kernel
theorem dWa_actFrom_97 : decode prog_11_method_5_code 97 = .ok (.iconst (0), 1) := by decide +kernel
theorem dWa_actFrom_98 : decode prog_11_method_5_code 98 = .ok (.istore 7, 2) := by decide +kernel
theorem dWa_actFrom_100 : decode prog_11_method_5_code 100 = .ok (.aload_n 0, 1) := by decide +kernel
theorem dWa_actFrom_101 : decode prog_11_method_5_code 101 = .ok (.getfield 27, 3) := by decide +kernel
theorem dWa_actFrom_104 : decode prog_11_method_5_code 104 = .ok (.getfield 74, 3) := by decide +kernel
theorem dWa_actFrom_107 : decode prog_11_method_5_code 107 = .ok (.iload_n 2, 1) := by decide +kernel
theorem dWa_actFrom_108 : decode prog_11_method_5_code 108 = .ok (.iaload, 1) := by decide +kernel
theorem dWa_actFrom_109 : decode prog_11_method_5_code 109 = .ok (.iload 5, 2) := by decide +kernel
theorem dWa_actFrom_111 : decode prog_11_method_5_code 111 = .ok (.invokestatic 96, 3) := by decide +kernel
theorem dWa_actFrom_114 : decode prog_11_method_5_code 114 = .ok (.iand, 1) := by decide +kernel
theorem dWa_actFrom_115 : decode prog_11_method_5_code 115 = .ok (.istore 8, 2) := by decide +kernel
theorem dWa_actFrom_117 : decode prog_11_method_5_code 117 = .ok (.aload_n 0, 1) := by decide +kernel
theorem dWa_actFrom_118 : decode prog_11_method_5_code 118 = .ok (.getfield 31, 3) := by decide +kernel
theorem dWa_actFrom_121 : decode prog_11_method_5_code 121 = .ok (.getfield 74, 3) := by decide +kernel
theorem dWa_actFrom_124 : decode prog_11_method_5_code 124 = .ok (.iload_n 3, 1) := by decide +kernel
theorem dWa_actFrom_125 : decode prog_11_method_5_code 125 = .ok (.iaload, 1) := by decide +kernel
theorem dWa_actFrom_126 : decode prog_11_method_5_code 126 = .ok (.iload 4, 2) := by decide +kernel
theorem dWa_actFrom_128 : decode prog_11_method_5_code 128 = .ok (.invokestatic 96, 3) := by decide +kernel
theorem dWa_actFrom_131 : decode prog_11_method_5_code 131 = .ok (.iand, 1) := by decide +kernel
theorem dWa_actFrom_132 : decode prog_11_method_5_code 132 = .ok (.istore 9, 2) := by decide +kernel
theorem dWa_actFrom_134 : decode prog_11_method_5_code 134 = .ok (.iconst (0), 1) := by decide +kernel
theorem dWa_actFrom_135 : decode prog_11_method_5_code 135 = .ok (.istore 10, 2) := by decide +kernel
theorem dWa_actFrom_137 : decode prog_11_method_5_code 137 = .ok (.iload 10, 2) := by decide +kernel
theorem dWa_actFrom_139 : decode prog_11_method_5_code 139 = .ok (.bipush (8), 2) := by decide +kernel
theorem dWa_actFrom_141 : decode prog_11_method_5_code 141 = .ok (.if_icmp .ge (52), 3) := by decide +kernel
theorem dWa_actFrom_144 : decode prog_11_method_5_code 144 = .ok (.iload 6, 2) := by decide +kernel
theorem dWa_actFrom_146 : decode prog_11_method_5_code 146 = .ok (.iload 10, 2) := by decide +kernel
theorem dWa_actFrom_148 : decode prog_11_method_5_code 148 = .ok (.invokestatic 77, 3) := by decide +kernel
theorem dWa_actFrom_151 : decode prog_11_method_5_code 151 = .ok (.ifCond .eq (36), 3) := by decide +kernel
theorem dWa_actFrom_154 : decode prog_11_method_5_code 154 = .ok (.aload_n 0, 1) := by decide +kernel
theorem dWa_actFrom_155 : decode prog_11_method_5_code 155 = .ok (.aload_n 0, 1) := by decide +kernel
theorem dWa_actFrom_156 : decode prog_11_method_5_code 156 = .ok (.getfield 27, 3) := by decide +kernel
theorem dWa_actFrom_159 : decode prog_11_method_5_code 159 = .ok (.iload_n 2, 1) := by decide +kernel
theorem dWa_actFrom_160 : decode prog_11_method_5_code 160 = .ok (.iconst (1), 1) := by decide +kernel
theorem dWa_actFrom_161 : decode prog_11_method_5_code 161 = .ok (.iload 10, 2) := by decide +kernel
theorem dWa_actFrom_163 : decode prog_11_method_5_code 163 = .ok (.invokevirtual 81, 3) := by decide +kernel
theorem dWa_actFrom_166 : decode prog_11_method_5_code 166 = .ok (.iload_n 3, 1) := by decide +kernel
theorem dWa_actFrom_167 : decode prog_11_method_5_code 167 = .ok (.iload 4, 2) := by decide +kernel
theorem dWa_actFrom_169 : decode prog_11_method_5_code 169 = .ok (.iload 10, 2) := by decide +kernel
theorem dWa_actFrom_171 : decode prog_11_method_5_code 171 = .ok (.invokestatic 99, 3) := by decide +kernel
theorem dWa_actFrom_174 : decode prog_11_method_5_code 174 = .ok (.iload 5, 2) := by decide +kernel
theorem dWa_actFrom_176 : decode prog_11_method_5_code 176 = .ok (.invokestatic 85, 3) := by decide +kernel
theorem dWa_actFrom_179 : decode prog_11_method_5_code 179 = .ok (.iload_n 1, 1) := by decide +kernel
theorem dWa_actFrom_180 : decode prog_11_method_5_code 180 = .ok (.iconst (0), 1) := by decide +kernel
theorem dWa_actFrom_181 : decode prog_11_method_5_code 181 = .ok (.iload 10, 2) := by decide +kernel
theorem dWa_actFrom_183 : decode prog_11_method_5_code 183 = .ok (.iadd, 1) := by decide +kernel
theorem dWa_actFrom_184 : decode prog_11_method_5_code 184 = .ok (.invokevirtual 54, 3) := by decide +kernel
theorem dWa_actFrom_187 : decode prog_11_method_5_code 187 = .ok (.iinc 10 (1), 3) := by decide +kernel
theorem dWa_actFrom_190 : decode prog_11_method_5_code 190 = .ok (.goto (-53), 3) := by decide +kernel
theorem dWa_actFrom_193 : decode prog_11_method_5_code 193 = .ok (.iconst (0), 1) := by decide +kernel
theorem dWa_actFrom_194 : decode prog_11_method_5_code 194 = .ok (.istore 10, 2) := by decide +kernel
theorem dWa_actFrom_196 : decode prog_11_method_5_code 196 = .ok (.iload 10, 2) := by decide +kernel
theorem dWa_actFrom_198 : decode prog_11_method_5_code 198 = .ok (.bipush (8), 2) := by decide +kernel
theorem dWa_actFrom_200 : decode prog_11_method_5_code 200 = .ok (.if_icmp .ge (53), 3) := by decide +kernel
theorem dWa_actFrom_203 : decode prog_11_method_5_code 203 = .ok (.iload 7, 2) := by decide +kernel
theorem dWa_actFrom_205 : decode prog_11_method_5_code 205 = .ok (.iload 10, 2) := by decide +kernel
theorem dWa_actFrom_207 : decode prog_11_method_5_code 207 = .ok (.invokestatic 77, 3) := by decide +kernel
theorem dWa_actFrom_210 : decode prog_11_method_5_code 210 = .ok (.ifCond .eq (37), 3) := by decide +kernel
theorem dWa_actFrom_213 : decode prog_11_method_5_code 213 = .ok (.aload_n 0, 1) := by decide +kernel
theorem dWa_actFrom_214 : decode prog_11_method_5_code 214 = .ok (.iload_n 2, 1) := by decide +kernel
theorem dWa_actFrom_215 : decode prog_11_method_5_code 215 = .ok (.aload_n 0, 1) := by decide +kernel
theorem dWa_actFrom_216 : decode prog_11_method_5_code 216 = .ok (.getfield 31, 3) := by decide +kernel
theorem dWa_actFrom_219 : decode prog_11_method_5_code 219 = .ok (.iload_n 3, 1) := by decide +kernel
theorem dWa_actFrom_220 : decode prog_11_method_5_code 220 = .ok (.iconst (1), 1) := by decide +kernel
theorem dWa_actFrom_221 : decode prog_11_method_5_code 221 = .ok (.iload 10, 2) := by decide +kernel
theorem dWa_actFrom_223 : decode prog_11_method_5_code 223 = .ok (.invokevirtual 81, 3) := by decide +kernel
theorem dWa_actFrom_226 : decode prog_11_method_5_code 226 = .ok (.iload 4, 2) := by decide +kernel
theorem dWa_actFrom_228 : decode prog_11_method_5_code 228 = .ok (.iload 5, 2) := by decide +kernel
theorem dWa_actFrom_230 : decode prog_11_method_5_code 230 = .ok (.iload 10, 2) := by decide +kernel
theorem dWa_actFrom_232 : decode prog_11_method_5_code 232 = .ok (.invokestatic 99, 3) := by decide +kernel
theorem dWa_actFrom_235 : decode prog_11_method_5_code 235 = .ok (.invokestatic 85, 3) := by decide +kernel
theorem dWa_actFrom_238 : decode prog_11_method_5_code 238 = .ok (.iload_n 1, 1) := by decide +kernel
theorem dWa_actFrom_239 : decode prog_11_method_5_code 239 = .ok (.bipush (8), 2) := by decide +kernel
theorem dWa_actFrom_241 : decode prog_11_method_5_code 241 = .ok (.iload 10, 2) := by decide +kernel
theorem dWa_actFrom_243 : decode prog_11_method_5_code 243 = .ok (.iadd, 1) := by decide +kernel
theorem dWa_actFrom_244 : decode prog_11_method_5_code 244 = .ok (.invokevirtual 54, 3) := by decide +kernel
theorem dWa_actFrom_247 : decode prog_11_method_5_code 247 = .ok (.iinc 10 (1), 3) := by decide +kernel
theorem dWa_actFrom_250 : decode prog_11_method_5_code 250 = .ok (.goto (-54), 3) := by decide +kernel
theorem dWa_actFrom_253 : decode prog_11_method_5_code 253 = .ok (.iload 8, 2) := by decide +kernel
theorem dWa_actFrom_255 : decode prog_11_method_5_code 255 = .ok (.ifCond .eq (36), 3) := by decide +kernel
theorem dWa_actFrom_258 : decode prog_11_method_5_code 258 = .ok (.aload_n 0, 1) := by decide +kernel
theorem dWa_actFrom_259 : decode prog_11_method_5_code 259 = .ok (.aload_n 0, 1) := by decide +kernel
theorem dWa_actFrom_260 : decode prog_11_method_5_code 260 = .ok (.getfield 27, 3) := by decide +kernel
theorem dWa_actFrom_263 : decode prog_11_method_5_code 263 = .ok (.iload_n 2, 1) := by decide +kernel
theorem dWa_actFrom_264 : decode prog_11_method_5_code 264 = .ok (.iconst (0), 1) := by decide +kernel
theorem dWa_actFrom_265 : decode prog_11_method_5_code 265 = .ok (.iload 5, 2) := by decide +kernel
theorem dWa_actFrom_267 : decode prog_11_method_5_code 267 = .ok (.bipush (15), 2) := by decide +kernel
theorem dWa_actFrom_269 : decode prog_11_method_5_code 269 = .ok (.iand, 1) := by decide +kernel
theorem dWa_actFrom_270 : decode prog_11_method_5_code 270 = .ok (.iconst (1), 1) := by decide +kernel
theorem dWa_actFrom_271 : decode prog_11_method_5_code 271 = .ok (.isub, 1) := by decide +kernel
theorem dWa_actFrom_272 : decode prog_11_method_5_code 272 = .ok (.invokevirtual 81, 3) := by decide +kernel
theorem dWa_actFrom_275 : decode prog_11_method_5_code 275 = .ok (.iload_n 3, 1) := by decide +kernel
theorem dWa_actFrom_276 : decode prog_11_method_5_code 276 = .ok (.iload 4, 2) := by decide +kernel
theorem dWa_actFrom_278 : decode prog_11_method_5_code 278 = .ok (.iload 5, 2) := by decide +kernel
theorem dWa_actFrom_280 : decode prog_11_method_5_code 280 = .ok (.iconst (4), 1) := by decide +kernel
theorem dWa_actFrom_281 : decode prog_11_method_5_code 281 = .ok (.ishr, 1) := by decide +kernel
theorem dWa_actFrom_282 : decode prog_11_method_5_code 282 = .ok (.invokestatic 85, 3) := by decide +kernel
theorem dWa_actFrom_285 : decode prog_11_method_5_code 285 = .ok (.iload_n 1, 1) := by decide +kernel
theorem dWa_actFrom_286 : decode prog_11_method_5_code 286 = .ok (.bipush (16), 2) := by decide +kernel
theorem dWa_actFrom_288 : decode prog_11_method_5_code 288 = .ok (.invokevirtual 54, 3) := by decide +kernel
theorem dWa_actFrom_291 : decode prog_11_method_5_code 291 = .ok (.iload 9, 2) := by decide +kernel
theorem dWa_actFrom_293 : decode prog_11_method_5_code 293 = .ok (.ifCond .eq (36), 3) := by decide +kernel
theorem dWa_actFrom_296 : decode prog_11_method_5_code 296 = .ok (.aload_n 0, 1) := by decide +kernel
theorem dWa_actFrom_297 : decode prog_11_method_5_code 297 = .ok (.iload_n 2, 1) := by decide +kernel
theorem dWa_actFrom_298 : decode prog_11_method_5_code 298 = .ok (.aload_n 0, 1) := by decide +kernel
theorem dWa_actFrom_299 : decode prog_11_method_5_code 299 = .ok (.getfield 31, 3) := by decide +kernel
theorem dWa_actFrom_302 : decode prog_11_method_5_code 302 = .ok (.iload_n 3, 1) := by decide +kernel
theorem dWa_actFrom_303 : decode prog_11_method_5_code 303 = .ok (.iconst (0), 1) := by decide +kernel
theorem dWa_actFrom_304 : decode prog_11_method_5_code 304 = .ok (.iload 4, 2) := by decide +kernel
theorem dWa_actFrom_306 : decode prog_11_method_5_code 306 = .ok (.bipush (15), 2) := by decide +kernel
theorem dWa_actFrom_308 : decode prog_11_method_5_code 308 = .ok (.iand, 1) := by decide +kernel
theorem dWa_actFrom_309 : decode prog_11_method_5_code 309 = .ok (.iconst (1), 1) := by decide +kernel
theorem dWa_actFrom_310 : decode prog_11_method_5_code 310 = .ok (.isub, 1) := by decide +kernel
theorem dWa_actFrom_311 : decode prog_11_method_5_code 311 = .ok (.invokevirtual 81, 3) := by decide +kernel
theorem dWa_actFrom_314 : decode prog_11_method_5_code 314 = .ok (.iload 4, 2) := by decide +kernel
theorem dWa_actFrom_316 : decode prog_11_method_5_code 316 = .ok (.iconst (4), 1) := by decide +kernel
theorem dWa_actFrom_317 : decode prog_11_method_5_code 317 = .ok (.ishr, 1) := by decide +kernel
theorem dWa_actFrom_318 : decode prog_11_method_5_code 318 = .ok (.iload 5, 2) := by decide +kernel
theorem dWa_actFrom_320 : decode prog_11_method_5_code 320 = .ok (.invokestatic 85, 3) := by decide +kernel
theorem dWa_actFrom_323 : decode prog_11_method_5_code 323 = .ok (.iload_n 1, 1) := by decide +kernel
theorem dWa_actFrom_324 : decode prog_11_method_5_code 324 = .ok (.bipush (17), 2) := by decide +kernel
theorem dWa_actFrom_326 : decode prog_11_method_5_code 326 = .ok (.invokevirtual 54, 3) := by decide +kernel
theorem dWa_actFrom_329 : decode prog_11_method_5_code 329 = .ok (.aload_n 0, 1) := by decide +kernel
theorem dWa_actFrom_330 : decode prog_11_method_5_code 330 = .ok (.getfield 27, 3) := by decide +kernel
theorem dWa_actFrom_333 : decode prog_11_method_5_code 333 = .ok (.iload_n 2, 1) := by decide +kernel
theorem dWa_actFrom_334 : decode prog_11_method_5_code 334 = .ok (.invokevirtual 89, 3) := by decide +kernel
theorem dWa_actFrom_337 : decode prog_11_method_5_code 337 = .ok (.ifCond .eq (26), 3) := by decide +kernel
theorem dWa_actFrom_340 : decode prog_11_method_5_code 340 = .ok (.aload_n 0, 1) := by decide +kernel
theorem dWa_actFrom_341 : decode prog_11_method_5_code 341 = .ok (.getfield 31, 3) := by decide +kernel
theorem dWa_actFrom_344 : decode prog_11_method_5_code 344 = .ok (.iload_n 3, 1) := by decide +kernel
theorem dWa_actFrom_345 : decode prog_11_method_5_code 345 = .ok (.invokevirtual 89, 3) := by decide +kernel
theorem dWa_actFrom_348 : decode prog_11_method_5_code 348 = .ok (.ifCond .eq (15), 3) := by decide +kernel
theorem dWa_actFrom_351 : decode prog_11_method_5_code 351 = .ok (.iload 5, 2) := by decide +kernel
theorem dWa_actFrom_353 : decode prog_11_method_5_code 353 = .ok (.iload 4, 2) := by decide +kernel
theorem dWa_actFrom_355 : decode prog_11_method_5_code 355 = .ok (.ior, 1) := by decide +kernel
theorem dWa_actFrom_356 : decode prog_11_method_5_code 356 = .ok (.ifCond .ne (7), 3) := by decide +kernel
theorem dWa_actFrom_359 : decode prog_11_method_5_code 359 = .ok (.iconst (1), 1) := by decide +kernel
theorem dWa_actFrom_360 : decode prog_11_method_5_code 360 = .ok (.goto (4), 3) := by decide +kernel
theorem dWa_actFrom_363 : decode prog_11_method_5_code 363 = .ok (.iconst (0), 1) := by decide +kernel
theorem dWa_actFrom_364 : decode prog_11_method_5_code 364 = .ok (.istore 10, 2) := by decide +kernel
theorem dWa_actFrom_366 : decode prog_11_method_5_code 366 = .ok (.iload 6, 2) := by decide +kernel
theorem dWa_actFrom_368 : decode prog_11_method_5_code 368 = .ok (.iload 7, 2) := by decide +kernel
theorem dWa_actFrom_370 : decode prog_11_method_5_code 370 = .ok (.ior, 1) := by decide +kernel
theorem dWa_actFrom_371 : decode prog_11_method_5_code 371 = .ok (.iload 8, 2) := by decide +kernel
theorem dWa_actFrom_373 : decode prog_11_method_5_code 373 = .ok (.ior, 1) := by decide +kernel
theorem dWa_actFrom_374 : decode prog_11_method_5_code 374 = .ok (.iload 9, 2) := by decide +kernel
theorem dWa_actFrom_376 : decode prog_11_method_5_code 376 = .ok (.ior, 1) := by decide +kernel
theorem dWa_actFrom_377 : decode prog_11_method_5_code 377 = .ok (.ifCond .ne (12), 3) := by decide +kernel
theorem dWa_actFrom_380 : decode prog_11_method_5_code 380 = .ok (.iload 10, 2) := by decide +kernel
theorem dWa_actFrom_382 : decode prog_11_method_5_code 382 = .ok (.ifCond .ne (7), 3) := by decide +kernel
theorem dWa_actFrom_385 : decode prog_11_method_5_code 385 = .ok (.iconst (1), 1) := by decide +kernel
theorem dWa_actFrom_386 : decode prog_11_method_5_code 386 = .ok (.goto (4), 3) := by decide +kernel
theorem dWa_actFrom_389 : decode prog_11_method_5_code 389 = .ok (.iconst (0), 1) := by decide +kernel
theorem dWa_actFrom_390 : decode prog_11_method_5_code 390 = .ok (.ireturn, 1) := by decide +kernel
theorem dWa_keepWay_0 : decode prog_11_method_11_code 0 = .ok (.aload_n 0, 1) := by decide +kernel
theorem dWa_keepWay_1 : decode prog_11_method_11_code 1 = .ok (.iconst (0), 1) := by decide +kernel
theorem dWa_keepWay_2 : decode prog_11_method_11_code 2 = .ok (.putfield 41, 3) := by decide +kernel
theorem dWa_keepWay_5 : decode prog_11_method_11_code 5 = .ok (.iload_n 1, 1) := by decide +kernel
theorem dWa_keepWay_6 : decode prog_11_method_11_code 6 = .ok (.istore_n 2, 1) := by decide +kernel
theorem dWa_keepWay_7 : decode prog_11_method_11_code 7 = .ok (.iload_n 2, 1) := by decide +kernel
theorem dWa_keepWay_8 : decode prog_11_method_11_code 8 = .ok (.ifCond .le (48), 3) := by decide +kernel
theorem dWa_keepWay_11 : decode prog_11_method_11_code 11 = .ok (.aload_n 0, 1) := by decide +kernel
theorem dWa_keepWay_12 : decode prog_11_method_11_code 12 = .ok (.getfield 41, 3) := by decide +kernel
theorem dWa_keepWay_15 : decode prog_11_method_11_code 15 = .ok (.sipush (4000), 3) := by decide +kernel
theorem dWa_keepWay_18 : decode prog_11_method_11_code 18 = .ok (.if_icmp .ge (38), 3) := by decide +kernel
theorem dWa_keepWay_21 : decode prog_11_method_11_code 21 = .ok (.aload_n 0, 1) := by decide +kernel
theorem dWa_keepWay_22 : decode prog_11_method_11_code 22 = .ok (.getfield 24, 3) := by decide +kernel
theorem dWa_keepWay_25 : decode prog_11_method_11_code 25 = .ok (.aload_n 0, 1) := by decide +kernel
theorem dWa_keepWay_26 : decode prog_11_method_11_code 26 = .ok (.getfield 41, 3) := by decide +kernel
theorem dWa_keepWay_29 : decode prog_11_method_11_code 29 = .ok (.aload_n 0, 1) := by decide +kernel
theorem dWa_keepWay_30 : decode prog_11_method_11_code 30 = .ok (.getfield 18, 3) := by decide +kernel
theorem dWa_keepWay_33 : decode prog_11_method_11_code 33 = .ok (.iload_n 2, 1) := by decide +kernel
theorem dWa_keepWay_34 : decode prog_11_method_11_code 34 = .ok (.iaload, 1) := by decide +kernel
theorem dWa_keepWay_35 : decode prog_11_method_11_code 35 = .ok (.iastore, 1) := by decide +kernel
theorem dWa_keepWay_36 : decode prog_11_method_11_code 36 = .ok (.aload_n 0, 1) := by decide +kernel
theorem dWa_keepWay_37 : decode prog_11_method_11_code 37 = .ok (.dup, 1) := by decide +kernel
theorem dWa_keepWay_38 : decode prog_11_method_11_code 38 = .ok (.getfield 41, 3) := by decide +kernel
theorem dWa_keepWay_41 : decode prog_11_method_11_code 41 = .ok (.iconst (1), 1) := by decide +kernel
theorem dWa_keepWay_42 : decode prog_11_method_11_code 42 = .ok (.iadd, 1) := by decide +kernel
theorem dWa_keepWay_43 : decode prog_11_method_11_code 43 = .ok (.putfield 41, 3) := by decide +kernel
theorem dWa_keepWay_46 : decode prog_11_method_11_code 46 = .ok (.aload_n 0, 1) := by decide +kernel
theorem dWa_keepWay_47 : decode prog_11_method_11_code 47 = .ok (.getfield 15, 3) := by decide +kernel
theorem dWa_keepWay_50 : decode prog_11_method_11_code 50 = .ok (.iload_n 2, 1) := by decide +kernel
theorem dWa_keepWay_51 : decode prog_11_method_11_code 51 = .ok (.iaload, 1) := by decide +kernel
theorem dWa_keepWay_52 : decode prog_11_method_11_code 52 = .ok (.istore_n 2, 1) := by decide +kernel
theorem dWa_keepWay_53 : decode prog_11_method_11_code 53 = .ok (.goto (-46), 3) := by decide +kernel
theorem dWa_keepWay_56 : decode prog_11_method_11_code 56 = .ok (.iconst (0), 1) := by decide +kernel
theorem dWa_keepWay_57 : decode prog_11_method_11_code 57 = .ok (.istore_n 2, 1) := by decide +kernel
theorem dWa_keepWay_58 : decode prog_11_method_11_code 58 = .ok (.iload_n 2, 1) := by decide +kernel
theorem dWa_keepWay_59 : decode prog_11_method_11_code 59 = .ok (.aload_n 0, 1) := by decide +kernel
theorem dWa_keepWay_60 : decode prog_11_method_11_code 60 = .ok (.getfield 41, 3) := by decide +kernel
theorem dWa_keepWay_63 : decode prog_11_method_11_code 63 = .ok (.iconst (2), 1) := by decide +kernel
theorem dWa_keepWay_64 : decode prog_11_method_11_code 64 = .ok (.idiv, 1) := by decide +kernel
theorem dWa_keepWay_65 : decode prog_11_method_11_code 65 = .ok (.if_icmp .ge (49), 3) := by decide +kernel
theorem dWa_keepWay_68 : decode prog_11_method_11_code 68 = .ok (.aload_n 0, 1) := by decide +kernel
theorem dWa_keepWay_69 : decode prog_11_method_11_code 69 = .ok (.getfield 24, 3) := by decide +kernel
theorem dWa_keepWay_72 : decode prog_11_method_11_code 72 = .ok (.iload_n 2, 1) := by decide +kernel
theorem dWa_keepWay_73 : decode prog_11_method_11_code 73 = .ok (.iaload, 1) := by decide +kernel
theorem dWa_keepWay_74 : decode prog_11_method_11_code 74 = .ok (.istore_n 3, 1) := by decide +kernel
theorem dWa_keepWay_75 : decode prog_11_method_11_code 75 = .ok (.aload_n 0, 1) := by decide +kernel
theorem dWa_keepWay_76 : decode prog_11_method_11_code 76 = .ok (.getfield 24, 3) := by decide +kernel
theorem dWa_keepWay_79 : decode prog_11_method_11_code 79 = .ok (.iload_n 2, 1) := by decide +kernel
theorem dWa_keepWay_80 : decode prog_11_method_11_code 80 = .ok (.aload_n 0, 1) := by decide +kernel
theorem dWa_keepWay_81 : decode prog_11_method_11_code 81 = .ok (.getfield 24, 3) := by decide +kernel
theorem dWa_keepWay_84 : decode prog_11_method_11_code 84 = .ok (.aload_n 0, 1) := by decide +kernel
theorem dWa_keepWay_85 : decode prog_11_method_11_code 85 = .ok (.getfield 41, 3) := by decide +kernel
theorem dWa_keepWay_88 : decode prog_11_method_11_code 88 = .ok (.iconst (1), 1) := by decide +kernel
theorem dWa_keepWay_89 : decode prog_11_method_11_code 89 = .ok (.isub, 1) := by decide +kernel
theorem dWa_keepWay_90 : decode prog_11_method_11_code 90 = .ok (.iload_n 2, 1) := by decide +kernel
theorem dWa_keepWay_91 : decode prog_11_method_11_code 91 = .ok (.isub, 1) := by decide +kernel
theorem dWa_keepWay_92 : decode prog_11_method_11_code 92 = .ok (.iaload, 1) := by decide +kernel
theorem dWa_keepWay_93 : decode prog_11_method_11_code 93 = .ok (.iastore, 1) := by decide +kernel
theorem dWa_keepWay_94 : decode prog_11_method_11_code 94 = .ok (.aload_n 0, 1) := by decide +kernel
theorem dWa_keepWay_95 : decode prog_11_method_11_code 95 = .ok (.getfield 24, 3) := by decide +kernel
theorem dWa_keepWay_98 : decode prog_11_method_11_code 98 = .ok (.aload_n 0, 1) := by decide +kernel
theorem dWa_keepWay_99 : decode prog_11_method_11_code 99 = .ok (.getfield 41, 3) := by decide +kernel
theorem dWa_keepWay_102 : decode prog_11_method_11_code 102 = .ok (.iconst (1), 1) := by decide +kernel
theorem dWa_keepWay_103 : decode prog_11_method_11_code 103 = .ok (.isub, 1) := by decide +kernel
theorem dWa_keepWay_104 : decode prog_11_method_11_code 104 = .ok (.iload_n 2, 1) := by decide +kernel
theorem dWa_keepWay_105 : decode prog_11_method_11_code 105 = .ok (.isub, 1) := by decide +kernel
theorem dWa_keepWay_106 : decode prog_11_method_11_code 106 = .ok (.iload_n 3, 1) := by decide +kernel
theorem dWa_keepWay_107 : decode prog_11_method_11_code 107 = .ok (.iastore, 1) := by decide +kernel
theorem dWa_keepWay_108 : decode prog_11_method_11_code 108 = .ok (.iinc 2 (1), 3) := by decide +kernel
theorem dWa_keepWay_111 : decode prog_11_method_11_code 111 = .ok (.goto (-53), 3) := by decide +kernel
theorem dWa_keepWay_114 : decode prog_11_method_11_code 114 = .ok (.return_, 1) := by decide +kernel
theorem dWa_through_0 : decode prog_11_method_2_code 0 = .ok (.aload_n 0, 1) := by decide +kernel
theorem dWa_through_1 : decode prog_11_method_2_code 1 = .ok (.aload_n 1, 1) := by decide +kernel
theorem dWa_through_2 : decode prog_11_method_2_code 2 = .ok (.putfield 27, 3) := by decide +kernel
theorem dWa_through_5 : decode prog_11_method_2_code 5 = .ok (.aload_n 0, 1) := by decide +kernel
theorem dWa_through_6 : decode prog_11_method_2_code 6 = .ok (.aload_n 2, 1) := by decide +kernel
theorem dWa_through_7 : decode prog_11_method_2_code 7 = .ok (.putfield 31, 3) := by decide +kernel
theorem dWa_through_10 : decode prog_11_method_2_code 10 = .ok (.aload_n 0, 1) := by decide +kernel
theorem dWa_through_11 : decode prog_11_method_2_code 11 = .ok (.iload_n 3, 1) := by decide +kernel
theorem dWa_through_12 : decode prog_11_method_2_code 12 = .ok (.putfield 34, 3) := by decide +kernel
theorem dWa_through_15 : decode prog_11_method_2_code 15 = .ok (.aload_n 0, 1) := by decide +kernel
theorem dWa_through_16 : decode prog_11_method_2_code 16 = .ok (.iconst (0), 1) := by decide +kernel
theorem dWa_through_17 : decode prog_11_method_2_code 17 = .ok (.putfield 38, 3) := by decide +kernel
theorem dWa_through_20 : decode prog_11_method_2_code 20 = .ok (.aload_n 0, 1) := by decide +kernel
theorem dWa_through_21 : decode prog_11_method_2_code 21 = .ok (.iconst (0), 1) := by decide +kernel
theorem dWa_through_22 : decode prog_11_method_2_code 22 = .ok (.putfield 41, 3) := by decide +kernel
theorem dWa_through_25 : decode prog_11_method_2_code 25 = .ok (.aload_n 0, 1) := by decide +kernel
theorem dWa_through_26 : decode prog_11_method_2_code 26 = .ok (.iconst (0), 1) := by decide +kernel
theorem dWa_through_27 : decode prog_11_method_2_code 27 = .ok (.putfield 44, 3) := by decide +kernel
theorem dWa_through_30 : decode prog_11_method_2_code 30 = .ok (.aload_n 0, 1) := by decide +kernel
theorem dWa_through_31 : decode prog_11_method_2_code 31 = .ok (.getfield 21, 3) := by decide +kernel
theorem dWa_through_34 : decode prog_11_method_2_code 34 = .ok (.iconst (0), 1) := by decide +kernel
theorem dWa_through_35 : decode prog_11_method_2_code 35 = .ok (.invokestatic 48, 3) := by decide +kernel
theorem dWa_through_38 : decode prog_11_method_2_code 38 = .ok (.aload_n 0, 1) := by decide +kernel
theorem dWa_through_39 : decode prog_11_method_2_code 39 = .ok (.iconst (0), 1) := by decide +kernel
theorem dWa_through_40 : decode prog_11_method_2_code 40 = .ok (.iconst (-1), 1) := by decide +kernel
theorem dWa_through_41 : decode prog_11_method_2_code 41 = .ok (.iconst (-1), 1) := by decide +kernel
theorem dWa_through_42 : decode prog_11_method_2_code 42 = .ok (.invokevirtual 54, 3) := by decide +kernel
theorem dWa_through_45 : decode prog_11_method_2_code 45 = .ok (.iconst (0), 1) := by decide +kernel
theorem dWa_through_46 : decode prog_11_method_2_code 46 = .ok (.istore 4, 2) := by decide +kernel
theorem dWa_through_48 : decode prog_11_method_2_code 48 = .ok (.iconst (0), 1) := by decide +kernel
theorem dWa_through_49 : decode prog_11_method_2_code 49 = .ok (.istore 5, 2) := by decide +kernel
theorem dWa_through_51 : decode prog_11_method_2_code 51 = .ok (.iload 5, 2) := by decide +kernel
theorem dWa_through_53 : decode prog_11_method_2_code 53 = .ok (.aload_n 0, 1) := by decide +kernel
theorem dWa_through_54 : decode prog_11_method_2_code 54 = .ok (.getfield 38, 3) := by decide +kernel
theorem dWa_through_57 : decode prog_11_method_2_code 57 = .ok (.if_icmp .ge (68), 3) := by decide +kernel
theorem dWa_through_60 : decode prog_11_method_2_code 60 = .ok (.iload 5, 2) := by decide +kernel
theorem dWa_through_62 : decode prog_11_method_2_code 62 = .ok (.sipush (4000), 3) := by decide +kernel
theorem dWa_through_65 : decode prog_11_method_2_code 65 = .ok (.if_icmp .ge (60), 3) := by decide +kernel
theorem dWa_through_68 : decode prog_11_method_2_code 68 = .ok (.aload_n 0, 1) := by decide +kernel
theorem dWa_through_69 : decode prog_11_method_2_code 69 = .ok (.getfield 44, 3) := by decide +kernel
theorem dWa_through_72 : decode prog_11_method_2_code 72 = .ok (.ifCond .ne (53), 3) := by decide +kernel
theorem dWa_through_75 : decode prog_11_method_2_code 75 = .ok (.aload_n 0, 1) := by decide +kernel
theorem dWa_through_76 : decode prog_11_method_2_code 76 = .ok (.getfield 34, 3) := by decide +kernel
theorem dWa_through_79 : decode prog_11_method_2_code 79 = .ok (.ifCond .ne (12), 3) := by decide +kernel
theorem dWa_through_82 : decode prog_11_method_2_code 82 = .ok (.aload_n 0, 1) := by decide +kernel
theorem dWa_through_83 : decode prog_11_method_2_code 83 = .ok (.iload 5, 2) := by decide +kernel
theorem dWa_through_85 : decode prog_11_method_2_code 85 = .ok (.invokevirtual 58, 3) := by decide +kernel
theorem dWa_through_88 : decode prog_11_method_2_code 88 = .ok (.goto (9), 3) := by decide +kernel
theorem dWa_through_91 : decode prog_11_method_2_code 91 = .ok (.aload_n 0, 1) := by decide +kernel
theorem dWa_through_92 : decode prog_11_method_2_code 92 = .ok (.iload 5, 2) := by decide +kernel
theorem dWa_through_94 : decode prog_11_method_2_code 94 = .ok (.invokevirtual 62, 3) := by decide +kernel
theorem dWa_through_97 : decode prog_11_method_2_code 97 = .ok (.istore 6, 2) := by decide +kernel
theorem dWa_through_99 : decode prog_11_method_2_code 99 = .ok (.iload 4, 2) := by decide +kernel
theorem dWa_through_101 : decode prog_11_method_2_code 101 = .ok (.ifCond .ne (18), 3) := by decide +kernel
theorem dWa_through_104 : decode prog_11_method_2_code 104 = .ok (.iload 6, 2) := by decide +kernel
theorem dWa_through_106 : decode prog_11_method_2_code 106 = .ok (.ifCond .eq (13), 3) := by decide +kernel
theorem dWa_through_109 : decode prog_11_method_2_code 109 = .ok (.iload 6, 2) := by decide +kernel
theorem dWa_through_111 : decode prog_11_method_2_code 111 = .ok (.istore 4, 2) := by decide +kernel
theorem dWa_through_113 : decode prog_11_method_2_code 113 = .ok (.aload_n 0, 1) := by decide +kernel
theorem dWa_through_114 : decode prog_11_method_2_code 114 = .ok (.iload 5, 2) := by decide +kernel
theorem dWa_through_116 : decode prog_11_method_2_code 116 = .ok (.invokevirtual 65, 3) := by decide +kernel
theorem dWa_through_119 : decode prog_11_method_2_code 119 = .ok (.iinc 5 (1), 3) := by decide +kernel
theorem dWa_through_122 : decode prog_11_method_2_code 122 = .ok (.goto (-71), 3) := by decide +kernel
theorem dWa_through_125 : decode prog_11_method_2_code 125 = .ok (.aload_n 0, 1) := by decide +kernel
theorem dWa_through_126 : decode prog_11_method_2_code 126 = .ok (.getfield 44, 3) := by decide +kernel
theorem dWa_through_129 : decode prog_11_method_2_code 129 = .ok (.ifCond .eq (10), 3) := by decide +kernel
theorem dWa_through_132 : decode prog_11_method_2_code 132 = .ok (.aload_n 0, 1) := by decide +kernel
theorem dWa_through_133 : decode prog_11_method_2_code 133 = .ok (.iconst (0), 1) := by decide +kernel
theorem dWa_through_134 : decode prog_11_method_2_code 134 = .ok (.putfield 41, 3) := by decide +kernel
theorem dWa_through_137 : decode prog_11_method_2_code 137 = .ok (.iconst (3), 1) := by decide +kernel
theorem dWa_through_138 : decode prog_11_method_2_code 138 = .ok (.ireturn, 1) := by decide +kernel
theorem dWa_through_139 : decode prog_11_method_2_code 139 = .ok (.iload 4, 2) := by decide +kernel
theorem dWa_through_141 : decode prog_11_method_2_code 141 = .ok (.ireturn, 1) := by decide +kernel
theorem dC_join_0 : decode prog_1_method_10_code 0 = .ok (.aload_n 0, 1) := by decide +kernel
theorem dC_join_1 : decode prog_1_method_10_code 1 = .ok (.iload_n 1, 1) := by decide +kernel
theorem dC_join_2 : decode prog_1_method_10_code 2 = .ok (.invokevirtual 93, 3) := by decide +kernel
theorem dC_join_5 : decode prog_1_method_10_code 5 = .ok (.astore 4, 2) := by decide +kernel
theorem dC_join_7 : decode prog_1_method_10_code 7 = .ok (.aload_n 0, 1) := by decide +kernel
theorem dC_join_8 : decode prog_1_method_10_code 8 = .ok (.iload_n 2, 1) := by decide +kernel
theorem dC_join_9 : decode prog_1_method_10_code 9 = .ok (.invokevirtual 93, 3) := by decide +kernel
theorem dC_join_12 : decode prog_1_method_10_code 12 = .ok (.astore 5, 2) := by decide +kernel
theorem dC_join_14 : decode prog_1_method_10_code 14 = .ok (.aload 4, 2) := by decide +kernel
theorem dC_join_16 : decode prog_1_method_10_code 16 = .ok (.ifnull (8), 3) := by decide +kernel
theorem dC_join_19 : decode prog_1_method_10_code 19 = .ok (.aload 5, 2) := by decide +kernel
theorem dC_join_21 : decode prog_1_method_10_code 21 = .ok (.ifnonnull (6), 3) := by decide +kernel
theorem dC_join_24 : decode prog_1_method_10_code 24 = .ok (.bipush (-101), 2) := by decide +kernel
theorem dC_join_26 : decode prog_1_method_10_code 26 = .ok (.ireturn, 1) := by decide +kernel
theorem dC_join_27 : decode prog_1_method_10_code 27 = .ok (.iload_n 3, 1) := by decide +kernel
theorem dC_join_28 : decode prog_1_method_10_code 28 = .ok (.ifCond .lt (8), 3) := by decide +kernel
theorem dC_join_31 : decode prog_1_method_10_code 31 = .ok (.iload_n 3, 1) := by decide +kernel
theorem dC_join_32 : decode prog_1_method_10_code 32 = .ok (.iconst (2), 1) := by decide +kernel
theorem dC_join_33 : decode prog_1_method_10_code 33 = .ok (.if_icmp .le (6), 3) := by decide +kernel
theorem dC_join_36 : decode prog_1_method_10_code 36 = .ok (.bipush (-102), 2) := by decide +kernel
theorem dC_join_38 : decode prog_1_method_10_code 38 = .ok (.ireturn, 1) := by decide +kernel
theorem dC_join_39 : decode prog_1_method_10_code 39 = .ok (.iload_n 3, 1) := by decide +kernel
theorem dC_join_40 : decode prog_1_method_10_code 40 = .ok (.ifCond .le (25), 3) := by decide +kernel
theorem dC_join_43 : decode prog_1_method_10_code 43 = .ok (.aload_n 0, 1) := by decide +kernel
theorem dC_join_44 : decode prog_1_method_10_code 44 = .ok (.getfield 119, 3) := by decide +kernel
theorem dC_join_47 : decode prog_1_method_10_code 47 = .ok (.bipush (20), 2) := by decide +kernel
theorem dC_join_49 : decode prog_1_method_10_code 49 = .ok (.if_icmp .lt (6), 3) := by decide +kernel
theorem dC_join_52 : decode prog_1_method_10_code 52 = .ok (.bipush (-103), 2) := by decide +kernel
theorem dC_join_54 : decode prog_1_method_10_code 54 = .ok (.ireturn, 1) := by decide +kernel
theorem dC_join_55 : decode prog_1_method_10_code 55 = .ok (.aload_n 0, 1) := by decide +kernel
theorem dC_join_56 : decode prog_1_method_10_code 56 = .ok (.dup, 1) := by decide +kernel
theorem dC_join_57 : decode prog_1_method_10_code 57 = .ok (.getfield 119, 3) := by decide +kernel
theorem dC_join_60 : decode prog_1_method_10_code 60 = .ok (.iconst (1), 1) := by decide +kernel
theorem dC_join_61 : decode prog_1_method_10_code 61 = .ok (.iadd, 1) := by decide +kernel
theorem dC_join_62 : decode prog_1_method_10_code 62 = .ok (.putfield 119, 3) := by decide +kernel
theorem dC_join_65 : decode prog_1_method_10_code 65 = .ok (.aload_n 0, 1) := by decide +kernel
theorem dC_join_66 : decode prog_1_method_10_code 66 = .ok (.getfield 25, 3) := by decide +kernel
theorem dC_join_69 : decode prog_1_method_10_code 69 = .ok (.aload 4, 2) := by decide +kernel
theorem dC_join_71 : decode prog_1_method_10_code 71 = .ok (.aload 5, 2) := by decide +kernel
theorem dC_join_73 : decode prog_1_method_10_code 73 = .ok (.iload_n 3, 1) := by decide +kernel
theorem dC_join_74 : decode prog_1_method_10_code 74 = .ok (.invokevirtual 122, 3) := by decide +kernel
theorem dC_join_77 : decode prog_1_method_10_code 77 = .ok (.ireturn, 1) := by decide +kernel
theorem dM_same_0 : decode prog_14_method_26_code 0 = .ok (.iconst (0), 1) := by decide +kernel
theorem dM_same_1 : decode prog_14_method_26_code 1 = .ok (.istore_n 1, 1) := by decide +kernel
theorem dM_same_2 : decode prog_14_method_26_code 2 = .ok (.iload_n 1, 1) := by decide +kernel
theorem dM_same_3 : decode prog_14_method_26_code 3 = .ok (.bipush (8), 2) := by decide +kernel
theorem dM_same_5 : decode prog_14_method_26_code 5 = .ok (.if_icmp .ge (23), 3) := by decide +kernel
theorem dM_same_8 : decode prog_14_method_26_code 8 = .ok (.aload_n 0, 1) := by decide +kernel
theorem dM_same_9 : decode prog_14_method_26_code 9 = .ok (.getfield 94, 3) := by decide +kernel
theorem dM_same_12 : decode prog_14_method_26_code 12 = .ok (.iload_n 1, 1) := by decide +kernel
theorem dM_same_13 : decode prog_14_method_26_code 13 = .ok (.iload_n 1, 1) := by decide +kernel
theorem dM_same_14 : decode prog_14_method_26_code 14 = .ok (.iastore, 1) := by decide +kernel
theorem dM_same_15 : decode prog_14_method_26_code 15 = .ok (.aload_n 0, 1) := by decide +kernel
theorem dM_same_16 : decode prog_14_method_26_code 16 = .ok (.getfield 97, 3) := by decide +kernel
theorem dM_same_19 : decode prog_14_method_26_code 19 = .ok (.iload_n 1, 1) := by decide +kernel
theorem dM_same_20 : decode prog_14_method_26_code 20 = .ok (.iload_n 1, 1) := by decide +kernel
theorem dM_same_21 : decode prog_14_method_26_code 21 = .ok (.iastore, 1) := by decide +kernel
theorem dM_same_22 : decode prog_14_method_26_code 22 = .ok (.iinc 1 (1), 3) := by decide +kernel
theorem dM_same_25 : decode prog_14_method_26_code 25 = .ok (.goto (-23), 3) := by decide +kernel
theorem dM_same_28 : decode prog_14_method_26_code 28 = .ok (.return_, 1) := by decide +kernel
theorem dM_restart_0 : decode prog_14_method_27_code 0 = .ok (.aload_n 0, 1) := by decide +kernel
theorem dM_restart_1 : decode prog_14_method_27_code 1 = .ok (.iconst (0), 1) := by decide +kernel
theorem dM_restart_2 : decode prog_14_method_27_code 2 = .ok (.putfield 196, 3) := by decide +kernel
theorem dM_restart_5 : decode prog_14_method_27_code 5 = .ok (.iconst (0), 1) := by decide +kernel
theorem dM_restart_6 : decode prog_14_method_27_code 6 = .ok (.istore_n 1, 1) := by decide +kernel
theorem dM_restart_7 : decode prog_14_method_27_code 7 = .ok (.iload_n 1, 1) := by decide +kernel
theorem dM_restart_8 : decode prog_14_method_27_code 8 = .ok (.sipush (16384), 3) := by decide +kernel
theorem dM_restart_11 : decode prog_14_method_27_code 11 = .ok (.if_icmp .ge (16), 3) := by decide +kernel
theorem dM_restart_14 : decode prog_14_method_27_code 14 = .ok (.aload_n 0, 1) := by decide +kernel
theorem dM_restart_15 : decode prog_14_method_27_code 15 = .ok (.getfield 91, 3) := by decide +kernel
theorem dM_restart_18 : decode prog_14_method_27_code 18 = .ok (.iload_n 1, 1) := by decide +kernel
theorem dM_restart_19 : decode prog_14_method_27_code 19 = .ok (.iconst (0), 1) := by decide +kernel
theorem dM_restart_20 : decode prog_14_method_27_code 20 = .ok (.iastore, 1) := by decide +kernel
theorem dM_restart_21 : decode prog_14_method_27_code 21 = .ok (.iinc 1 (1), 3) := by decide +kernel
theorem dM_restart_24 : decode prog_14_method_27_code 24 = .ok (.goto (-17), 3) := by decide +kernel
theorem dM_restart_27 : decode prog_14_method_27_code 27 = .ok (.return_, 1) := by decide +kernel
theorem dM_isNew_0 : decode prog_14_method_28_code 0 = .ok (.iload_n 1, 1) := by decide +kernel
theorem dM_isNew_1 : decode prog_14_method_28_code 1 = .ok (.ldc 199, 2) := by decide +kernel
theorem dM_isNew_3 : decode prog_14_method_28_code 3 = .ok (.imul, 1) := by decide +kernel
theorem dM_isNew_4 : decode prog_14_method_28_code 4 = .ok (.iconst (4), 1) := by decide +kernel
theorem dM_isNew_5 : decode prog_14_method_28_code 5 = .ok (.iushr, 1) := by decide +kernel
theorem dM_isNew_6 : decode prog_14_method_28_code 6 = .ok (.sipush (16384), 3) := by decide +kernel
theorem dM_isNew_9 : decode prog_14_method_28_code 9 = .ok (.irem, 1) := by decide +kernel
theorem dM_isNew_10 : decode prog_14_method_28_code 10 = .ok (.istore 4, 2) := by decide +kernel
theorem dM_isNew_12 : decode prog_14_method_28_code 12 = .ok (.aload_n 0, 1) := by decide +kernel
theorem dM_isNew_13 : decode prog_14_method_28_code 13 = .ok (.getfield 91, 3) := by decide +kernel
theorem dM_isNew_16 : decode prog_14_method_28_code 16 = .ok (.iload 4, 2) := by decide +kernel
theorem dM_isNew_18 : decode prog_14_method_28_code 18 = .ok (.iaload, 1) := by decide +kernel
theorem dM_isNew_19 : decode prog_14_method_28_code 19 = .ok (.ifCond .eq (36), 3) := by decide +kernel
theorem dM_isNew_22 : decode prog_14_method_28_code 22 = .ok (.aload_n 0, 1) := by decide +kernel
theorem dM_isNew_23 : decode prog_14_method_28_code 23 = .ok (.getfield 82, 3) := by decide +kernel
theorem dM_isNew_26 : decode prog_14_method_28_code 26 = .ok (.aload_n 0, 1) := by decide +kernel
theorem dM_isNew_27 : decode prog_14_method_28_code 27 = .ok (.getfield 91, 3) := by decide +kernel
theorem dM_isNew_30 : decode prog_14_method_28_code 30 = .ok (.iload 4, 2) := by decide +kernel
theorem dM_isNew_32 : decode prog_14_method_28_code 32 = .ok (.iaload, 1) := by decide +kernel
theorem dM_isNew_33 : decode prog_14_method_28_code 33 = .ok (.iconst (1), 1) := by decide +kernel
theorem dM_isNew_34 : decode prog_14_method_28_code 34 = .ok (.isub, 1) := by decide +kernel
theorem dM_isNew_35 : decode prog_14_method_28_code 35 = .ok (.iaload, 1) := by decide +kernel
theorem dM_isNew_36 : decode prog_14_method_28_code 36 = .ok (.iload_n 1, 1) := by decide +kernel
theorem dM_isNew_37 : decode prog_14_method_28_code 37 = .ok (.if_icmp .ne (5), 3) := by decide +kernel
theorem dM_isNew_40 : decode prog_14_method_28_code 40 = .ok (.iconst (1), 1) := by decide +kernel
theorem dM_isNew_41 : decode prog_14_method_28_code 41 = .ok (.ireturn, 1) := by decide +kernel
theorem dM_isNew_42 : decode prog_14_method_28_code 42 = .ok (.iload 4, 2) := by decide +kernel
theorem dM_isNew_44 : decode prog_14_method_28_code 44 = .ok (.iconst (1), 1) := by decide +kernel
theorem dM_isNew_45 : decode prog_14_method_28_code 45 = .ok (.iadd, 1) := by decide +kernel
theorem dM_isNew_46 : decode prog_14_method_28_code 46 = .ok (.sipush (16384), 3) := by decide +kernel
theorem dM_isNew_49 : decode prog_14_method_28_code 49 = .ok (.irem, 1) := by decide +kernel
theorem dM_isNew_50 : decode prog_14_method_28_code 50 = .ok (.istore 4, 2) := by decide +kernel
theorem dM_isNew_52 : decode prog_14_method_28_code 52 = .ok (.goto (-40), 3) := by decide +kernel
theorem dM_isNew_55 : decode prog_14_method_28_code 55 = .ok (.aload_n 0, 1) := by decide +kernel
theorem dM_isNew_56 : decode prog_14_method_28_code 56 = .ok (.getfield 196, 3) := by decide +kernel
theorem dM_isNew_59 : decode prog_14_method_28_code 59 = .ok (.sipush (4000), 3) := by decide +kernel
theorem dM_isNew_62 : decode prog_14_method_28_code 62 = .ok (.if_icmp .ne (5), 3) := by decide +kernel
theorem dM_isNew_65 : decode prog_14_method_28_code 65 = .ok (.iconst (0), 1) := by decide +kernel
theorem dM_isNew_66 : decode prog_14_method_28_code 66 = .ok (.ireturn, 1) := by decide +kernel
theorem dM_isNew_67 : decode prog_14_method_28_code 67 = .ok (.aload_n 0, 1) := by decide +kernel
theorem dM_isNew_68 : decode prog_14_method_28_code 68 = .ok (.getfield 82, 3) := by decide +kernel
theorem dM_isNew_71 : decode prog_14_method_28_code 71 = .ok (.aload_n 0, 1) := by decide +kernel
theorem dM_isNew_72 : decode prog_14_method_28_code 72 = .ok (.getfield 196, 3) := by decide +kernel
theorem dM_isNew_75 : decode prog_14_method_28_code 75 = .ok (.iload_n 1, 1) := by decide +kernel
theorem dM_isNew_76 : decode prog_14_method_28_code 76 = .ok (.iastore, 1) := by decide +kernel
theorem dM_isNew_77 : decode prog_14_method_28_code 77 = .ok (.aload_n 0, 1) := by decide +kernel
theorem dM_isNew_78 : decode prog_14_method_28_code 78 = .ok (.getfield 85, 3) := by decide +kernel
theorem dM_isNew_81 : decode prog_14_method_28_code 81 = .ok (.aload_n 0, 1) := by decide +kernel
theorem dM_isNew_82 : decode prog_14_method_28_code 82 = .ok (.getfield 196, 3) := by decide +kernel
theorem dM_isNew_85 : decode prog_14_method_28_code 85 = .ok (.iload_n 2, 1) := by decide +kernel
theorem dM_isNew_86 : decode prog_14_method_28_code 86 = .ok (.iastore, 1) := by decide +kernel
theorem dM_isNew_87 : decode prog_14_method_28_code 87 = .ok (.aload_n 0, 1) := by decide +kernel
theorem dM_isNew_88 : decode prog_14_method_28_code 88 = .ok (.getfield 88, 3) := by decide +kernel
theorem dM_isNew_91 : decode prog_14_method_28_code 91 = .ok (.aload_n 0, 1) := by decide +kernel
theorem dM_isNew_92 : decode prog_14_method_28_code 92 = .ok (.getfield 196, 3) := by decide +kernel
theorem dM_isNew_95 : decode prog_14_method_28_code 95 = .ok (.iload_n 3, 1) := by decide +kernel
theorem dM_isNew_96 : decode prog_14_method_28_code 96 = .ok (.iastore, 1) := by decide +kernel
theorem dM_isNew_97 : decode prog_14_method_28_code 97 = .ok (.aload_n 0, 1) := by decide +kernel
theorem dM_isNew_98 : decode prog_14_method_28_code 98 = .ok (.dup, 1) := by decide +kernel
theorem dM_isNew_99 : decode prog_14_method_28_code 99 = .ok (.getfield 196, 3) := by decide +kernel
theorem dM_isNew_102 : decode prog_14_method_28_code 102 = .ok (.iconst (1), 1) := by decide +kernel
theorem dM_isNew_103 : decode prog_14_method_28_code 103 = .ok (.iadd, 1) := by decide +kernel
theorem dM_isNew_104 : decode prog_14_method_28_code 104 = .ok (.putfield 196, 3) := by decide +kernel
theorem dM_isNew_107 : decode prog_14_method_28_code 107 = .ok (.aload_n 0, 1) := by decide +kernel
theorem dM_isNew_108 : decode prog_14_method_28_code 108 = .ok (.getfield 91, 3) := by decide +kernel
theorem dM_isNew_111 : decode prog_14_method_28_code 111 = .ok (.iload 4, 2) := by decide +kernel
theorem dM_isNew_113 : decode prog_14_method_28_code 113 = .ok (.aload_n 0, 1) := by decide +kernel
theorem dM_isNew_114 : decode prog_14_method_28_code 114 = .ok (.getfield 196, 3) := by decide +kernel
theorem dM_isNew_117 : decode prog_14_method_28_code 117 = .ok (.iastore, 1) := by decide +kernel
theorem dM_isNew_118 : decode prog_14_method_28_code 118 = .ok (.iconst (1), 1) := by decide +kernel
theorem dM_isNew_119 : decode prog_14_method_28_code 119 = .ok (.ireturn, 1) := by decide +kernel
theorem dM_saysOf_0 : decode prog_14_method_30_code 0 = .ok (.aload_n 0, 1) := by decide +kernel
theorem dM_saysOf_1 : decode prog_14_method_30_code 1 = .ok (.getfield 97, 3) := by decide +kernel
theorem dM_saysOf_4 : decode prog_14_method_30_code 4 = .ok (.iload_n 3, 1) := by decide +kernel
theorem dM_saysOf_5 : decode prog_14_method_30_code 5 = .ok (.iaload, 1) := by decide +kernel
theorem dM_saysOf_6 : decode prog_14_method_30_code 6 = .ok (.iconst (-1), 1) := by decide +kernel
theorem dM_saysOf_7 : decode prog_14_method_30_code 7 = .ok (.if_icmp .ne (7), 3) := by decide +kernel
theorem dM_saysOf_10 : decode prog_14_method_30_code 10 = .ok (.iconst (-1), 1) := by decide +kernel
theorem dM_saysOf_11 : decode prog_14_method_30_code 11 = .ok (.goto (20), 3) := by decide +kernel
theorem dM_saysOf_14 : decode prog_14_method_30_code 14 = .ok (.aload_n 0, 1) := by decide +kernel
theorem dM_saysOf_15 : decode prog_14_method_30_code 15 = .ok (.getfield 17, 3) := by decide +kernel
theorem dM_saysOf_18 : decode prog_14_method_30_code 18 = .ok (.iload_n 1, 1) := by decide +kernel
theorem dM_saysOf_19 : decode prog_14_method_30_code 19 = .ok (.iload_n 2, 1) := by decide +kernel
theorem dM_saysOf_20 : decode prog_14_method_30_code 20 = .ok (.iconst (1), 1) := by decide +kernel
theorem dM_saysOf_21 : decode prog_14_method_30_code 21 = .ok (.aload_n 0, 1) := by decide +kernel
theorem dM_saysOf_22 : decode prog_14_method_30_code 22 = .ok (.getfield 97, 3) := by decide +kernel
theorem dM_saysOf_25 : decode prog_14_method_30_code 25 = .ok (.iload_n 3, 1) := by decide +kernel
theorem dM_saysOf_26 : decode prog_14_method_30_code 26 = .ok (.iaload, 1) := by decide +kernel
theorem dM_saysOf_27 : decode prog_14_method_30_code 27 = .ok (.invokestatic 176, 3) := by decide +kernel
theorem dM_saysOf_30 : decode prog_14_method_30_code 30 = .ok (.iaload, 1) := by decide +kernel
theorem dM_saysOf_31 : decode prog_14_method_30_code 31 = .ok (.ireturn, 1) := by decide +kernel
theorem dM_hearsOf_0 : decode prog_14_method_31_code 0 = .ok (.aload_n 0, 1) := by decide +kernel
theorem dM_hearsOf_1 : decode prog_14_method_31_code 1 = .ok (.getfield 97, 3) := by decide +kernel
theorem dM_hearsOf_4 : decode prog_14_method_31_code 4 = .ok (.iload_n 3, 1) := by decide +kernel
theorem dM_hearsOf_5 : decode prog_14_method_31_code 5 = .ok (.iaload, 1) := by decide +kernel
theorem dM_hearsOf_6 : decode prog_14_method_31_code 6 = .ok (.iconst (-1), 1) := by decide +kernel
theorem dM_hearsOf_7 : decode prog_14_method_31_code 7 = .ok (.if_icmp .ne (7), 3) := by decide +kernel
theorem dM_hearsOf_10 : decode prog_14_method_31_code 10 = .ok (.iconst (-1), 1) := by decide +kernel
theorem dM_hearsOf_11 : decode prog_14_method_31_code 11 = .ok (.goto (20), 3) := by decide +kernel
theorem dM_hearsOf_14 : decode prog_14_method_31_code 14 = .ok (.aload_n 0, 1) := by decide +kernel
theorem dM_hearsOf_15 : decode prog_14_method_31_code 15 = .ok (.getfield 17, 3) := by decide +kernel
theorem dM_hearsOf_18 : decode prog_14_method_31_code 18 = .ok (.iload_n 1, 1) := by decide +kernel
theorem dM_hearsOf_19 : decode prog_14_method_31_code 19 = .ok (.iload_n 2, 1) := by decide +kernel
theorem dM_hearsOf_20 : decode prog_14_method_31_code 20 = .ok (.iconst (0), 1) := by decide +kernel
theorem dM_hearsOf_21 : decode prog_14_method_31_code 21 = .ok (.aload_n 0, 1) := by decide +kernel
theorem dM_hearsOf_22 : decode prog_14_method_31_code 22 = .ok (.getfield 97, 3) := by decide +kernel
theorem dM_hearsOf_25 : decode prog_14_method_31_code 25 = .ok (.iload_n 3, 1) := by decide +kernel
theorem dM_hearsOf_26 : decode prog_14_method_31_code 26 = .ok (.iaload, 1) := by decide +kernel
theorem dM_hearsOf_27 : decode prog_14_method_31_code 27 = .ok (.invokestatic 176, 3) := by decide +kernel
theorem dM_hearsOf_30 : decode prog_14_method_31_code 30 = .ok (.iaload, 1) := by decide +kernel
theorem dM_hearsOf_31 : decode prog_14_method_31_code 31 = .ok (.ireturn, 1) := by decide +kernel
theorem dM_passFrom_0 : decode prog_14_method_32_code 0 = .ok (.aload_n 0, 1) := by decide +kernel
theorem dM_passFrom_1 : decode prog_14_method_32_code 1 = .ok (.getfield 82, 3) := by decide +kernel
theorem dM_passFrom_4 : decode prog_14_method_32_code 4 = .ok (.iload_n 3, 1) := by decide +kernel
theorem dM_passFrom_5 : decode prog_14_method_32_code 5 = .ok (.iaload, 1) := by decide +kernel
theorem dM_passFrom_6 : decode prog_14_method_32_code 6 = .ok (.bipush (25), 2) := by decide +kernel
theorem dM_passFrom_8 : decode prog_14_method_32_code 8 = .ok (.idiv, 1) := by decide +kernel
theorem dM_passFrom_9 : decode prog_14_method_32_code 9 = .ok (.istore 4, 2) := by decide +kernel
theorem dM_passFrom_11 : decode prog_14_method_32_code 11 = .ok (.aload_n 0, 1) := by decide +kernel
theorem dM_passFrom_12 : decode prog_14_method_32_code 12 = .ok (.getfield 82, 3) := by decide +kernel
theorem dM_passFrom_15 : decode prog_14_method_32_code 15 = .ok (.iload_n 3, 1) := by decide +kernel
theorem dM_passFrom_16 : decode prog_14_method_32_code 16 = .ok (.iaload, 1) := by decide +kernel
theorem dM_passFrom_17 : decode prog_14_method_32_code 17 = .ok (.bipush (25), 2) := by decide +kernel
theorem dM_passFrom_19 : decode prog_14_method_32_code 19 = .ok (.irem, 1) := by decide +kernel
theorem dM_passFrom_20 : decode prog_14_method_32_code 20 = .ok (.istore 5, 2) := by decide +kernel
theorem dM_passFrom_22 : decode prog_14_method_32_code 22 = .ok (.aload_n 0, 1) := by decide +kernel
theorem dM_passFrom_23 : decode prog_14_method_32_code 23 = .ok (.iconst (0), 1) := by decide +kernel
theorem dM_passFrom_24 : decode prog_14_method_32_code 24 = .ok (.putfield 203, 3) := by decide +kernel
theorem dM_passFrom_27 : decode prog_14_method_32_code 27 = .ok (.aload_n 0, 1) := by decide +kernel
theorem dM_passFrom_28 : decode prog_14_method_32_code 28 = .ok (.iconst (0), 1) := by decide +kernel
theorem dM_passFrom_29 : decode prog_14_method_32_code 29 = .ok (.putfield 206, 3) := by decide +kernel
theorem dM_passFrom_32 : decode prog_14_method_32_code 32 = .ok (.iconst (0), 1) := by decide +kernel
theorem dM_passFrom_33 : decode prog_14_method_32_code 33 = .ok (.istore 6, 2) := by decide +kernel
theorem dM_passFrom_35 : decode prog_14_method_32_code 35 = .ok (.iload 6, 2) := by decide +kernel
theorem dM_passFrom_37 : decode prog_14_method_32_code 37 = .ok (.bipush (8), 2) := by decide +kernel
theorem dM_passFrom_39 : decode prog_14_method_32_code 39 = .ok (.if_icmp .ge (191), 3) := by decide +kernel
theorem dM_passFrom_42 : decode prog_14_method_32_code 42 = .ok (.aload_n 0, 1) := by decide +kernel
theorem dM_passFrom_43 : decode prog_14_method_32_code 43 = .ok (.iload_n 1, 1) := by decide +kernel
theorem dM_passFrom_44 : decode prog_14_method_32_code 44 = .ok (.iload 4, 2) := by decide +kernel
theorem dM_passFrom_46 : decode prog_14_method_32_code 46 = .ok (.iload 6, 2) := by decide +kernel
theorem dM_passFrom_48 : decode prog_14_method_32_code 48 = .ok (.invokevirtual 209, 3) := by decide +kernel
theorem dM_passFrom_51 : decode prog_14_method_32_code 51 = .ok (.istore 7, 2) := by decide +kernel
theorem dM_passFrom_53 : decode prog_14_method_32_code 53 = .ok (.aload_n 0, 1) := by decide +kernel
theorem dM_passFrom_54 : decode prog_14_method_32_code 54 = .ok (.getfield 17, 3) := by decide +kernel
theorem dM_passFrom_57 : decode prog_14_method_32_code 57 = .ok (.iload_n 2, 1) := by decide +kernel
theorem dM_passFrom_58 : decode prog_14_method_32_code 58 = .ok (.iload 5, 2) := by decide +kernel
theorem dM_passFrom_60 : decode prog_14_method_32_code 60 = .ok (.iconst (0), 1) := by decide +kernel
theorem dM_passFrom_61 : decode prog_14_method_32_code 61 = .ok (.iload 6, 2) := by decide +kernel
theorem dM_passFrom_63 : decode prog_14_method_32_code 63 = .ok (.invokestatic 176, 3) := by decide +kernel
theorem dM_passFrom_66 : decode prog_14_method_32_code 66 = .ok (.iaload, 1) := by decide +kernel
theorem dM_passFrom_67 : decode prog_14_method_32_code 67 = .ok (.istore 8, 2) := by decide +kernel
theorem dM_passFrom_69 : decode prog_14_method_32_code 69 = .ok (.aload_n 0, 1) := by decide +kernel
theorem dM_passFrom_70 : decode prog_14_method_32_code 70 = .ok (.aload_n 0, 1) := by decide +kernel
theorem dM_passFrom_71 : decode prog_14_method_32_code 71 = .ok (.getfield 203, 3) := by decide +kernel
theorem dM_passFrom_74 : decode prog_14_method_32_code 74 = .ok (.ifCond .ne (15), 3) := by decide +kernel
theorem dM_passFrom_77 : decode prog_14_method_32_code 77 = .ok (.iload 7, 2) := by decide +kernel
theorem dM_passFrom_79 : decode prog_14_method_32_code 79 = .ok (.iconst (-1), 1) := by decide +kernel
theorem dM_passFrom_80 : decode prog_14_method_32_code 80 = .ok (.if_icmp .eq (13), 3) := by decide +kernel
theorem dM_passFrom_83 : decode prog_14_method_32_code 83 = .ok (.iload 8, 2) := by decide +kernel
theorem dM_passFrom_85 : decode prog_14_method_32_code 85 = .ok (.iconst (-1), 1) := by decide +kernel
theorem dM_passFrom_86 : decode prog_14_method_32_code 86 = .ok (.if_icmp .ne (7), 3) := by decide +kernel
theorem dM_passFrom_89 : decode prog_14_method_32_code 89 = .ok (.iconst (1), 1) := by decide +kernel
theorem dM_passFrom_90 : decode prog_14_method_32_code 90 = .ok (.goto (4), 3) := by decide +kernel
theorem dM_passFrom_93 : decode prog_14_method_32_code 93 = .ok (.iconst (0), 1) := by decide +kernel
theorem dM_passFrom_94 : decode prog_14_method_32_code 94 = .ok (.putfield 203, 3) := by decide +kernel
theorem dM_passFrom_97 : decode prog_14_method_32_code 97 = .ok (.iload 7, 2) := by decide +kernel
theorem dM_passFrom_99 : decode prog_14_method_32_code 99 = .ok (.iconst (-1), 1) := by decide +kernel
theorem dM_passFrom_100 : decode prog_14_method_32_code 100 = .ok (.if_icmp .eq (32), 3) := by decide +kernel
theorem dM_passFrom_103 : decode prog_14_method_32_code 103 = .ok (.iload 8, 2) := by decide +kernel
theorem dM_passFrom_105 : decode prog_14_method_32_code 105 = .ok (.iconst (-1), 1) := by decide +kernel
theorem dM_passFrom_106 : decode prog_14_method_32_code 106 = .ok (.if_icmp .eq (26), 3) := by decide +kernel
theorem dM_passFrom_109 : decode prog_14_method_32_code 109 = .ok (.aload_n 0, 1) := by decide +kernel
theorem dM_passFrom_110 : decode prog_14_method_32_code 110 = .ok (.iconst (1), 1) := by decide +kernel
theorem dM_passFrom_111 : decode prog_14_method_32_code 111 = .ok (.putfield 206, 3) := by decide +kernel
theorem dM_passFrom_114 : decode prog_14_method_32_code 114 = .ok (.aload_n 0, 1) := by decide +kernel
theorem dM_passFrom_115 : decode prog_14_method_32_code 115 = .ok (.bipush (25), 2) := by decide +kernel
theorem dM_passFrom_117 : decode prog_14_method_32_code 117 = .ok (.iload 7, 2) := by decide +kernel
theorem dM_passFrom_119 : decode prog_14_method_32_code 119 = .ok (.imul, 1) := by decide +kernel
theorem dM_passFrom_120 : decode prog_14_method_32_code 120 = .ok (.iload 8, 2) := by decide +kernel
theorem dM_passFrom_122 : decode prog_14_method_32_code 122 = .ok (.iadd, 1) := by decide +kernel
theorem dM_passFrom_123 : decode prog_14_method_32_code 123 = .ok (.iload_n 3, 1) := by decide +kernel
theorem dM_passFrom_124 : decode prog_14_method_32_code 124 = .ok (.iconst (2), 1) := by decide +kernel
theorem dM_passFrom_125 : decode prog_14_method_32_code 125 = .ok (.iload 6, 2) := by decide +kernel
theorem dM_passFrom_127 : decode prog_14_method_32_code 127 = .ok (.imul, 1) := by decide +kernel
theorem dM_passFrom_128 : decode prog_14_method_32_code 128 = .ok (.invokevirtual 212, 3) := by decide +kernel
theorem dM_passFrom_131 : decode prog_14_method_32_code 131 = .ok (.pop, 1) := by decide +kernel
theorem dM_passFrom_132 : decode prog_14_method_32_code 132 = .ok (.aload_n 0, 1) := by decide +kernel
theorem dM_passFrom_133 : decode prog_14_method_32_code 133 = .ok (.getfield 17, 3) := by decide +kernel
theorem dM_passFrom_136 : decode prog_14_method_32_code 136 = .ok (.iload_n 2, 1) := by decide +kernel
theorem dM_passFrom_137 : decode prog_14_method_32_code 137 = .ok (.iload 5, 2) := by decide +kernel
theorem dM_passFrom_139 : decode prog_14_method_32_code 139 = .ok (.iconst (1), 1) := by decide +kernel
theorem dM_passFrom_140 : decode prog_14_method_32_code 140 = .ok (.iload 6, 2) := by decide +kernel
theorem dM_passFrom_142 : decode prog_14_method_32_code 142 = .ok (.invokestatic 176, 3) := by decide +kernel
theorem dM_passFrom_145 : decode prog_14_method_32_code 145 = .ok (.iaload, 1) := by decide +kernel
theorem dM_passFrom_146 : decode prog_14_method_32_code 146 = .ok (.istore 7, 2) := by decide +kernel
theorem dM_passFrom_148 : decode prog_14_method_32_code 148 = .ok (.aload_n 0, 1) := by decide +kernel
theorem dM_passFrom_149 : decode prog_14_method_32_code 149 = .ok (.iload_n 1, 1) := by decide +kernel
theorem dM_passFrom_150 : decode prog_14_method_32_code 150 = .ok (.iload 4, 2) := by decide +kernel
theorem dM_passFrom_152 : decode prog_14_method_32_code 152 = .ok (.iload 6, 2) := by decide +kernel
theorem dM_passFrom_154 : decode prog_14_method_32_code 154 = .ok (.invokevirtual 215, 3) := by decide +kernel
theorem dM_passFrom_157 : decode prog_14_method_32_code 157 = .ok (.istore 8, 2) := by decide +kernel
theorem dM_passFrom_159 : decode prog_14_method_32_code 159 = .ok (.aload_n 0, 1) := by decide +kernel
theorem dM_passFrom_160 : decode prog_14_method_32_code 160 = .ok (.aload_n 0, 1) := by decide +kernel
theorem dM_passFrom_161 : decode prog_14_method_32_code 161 = .ok (.getfield 203, 3) := by decide +kernel
theorem dM_passFrom_164 : decode prog_14_method_32_code 164 = .ok (.ifCond .ne (15), 3) := by decide +kernel
theorem dM_passFrom_167 : decode prog_14_method_32_code 167 = .ok (.iload 7, 2) := by decide +kernel
theorem dM_passFrom_169 : decode prog_14_method_32_code 169 = .ok (.iconst (-1), 1) := by decide +kernel
theorem dM_passFrom_170 : decode prog_14_method_32_code 170 = .ok (.if_icmp .eq (13), 3) := by decide +kernel
theorem dM_passFrom_173 : decode prog_14_method_32_code 173 = .ok (.iload 8, 2) := by decide +kernel
theorem dM_passFrom_175 : decode prog_14_method_32_code 175 = .ok (.iconst (-1), 1) := by decide +kernel
theorem dM_passFrom_176 : decode prog_14_method_32_code 176 = .ok (.if_icmp .ne (7), 3) := by decide +kernel
theorem dM_passFrom_179 : decode prog_14_method_32_code 179 = .ok (.iconst (1), 1) := by decide +kernel
theorem dM_passFrom_180 : decode prog_14_method_32_code 180 = .ok (.goto (4), 3) := by decide +kernel
theorem dM_passFrom_183 : decode prog_14_method_32_code 183 = .ok (.iconst (0), 1) := by decide +kernel
theorem dM_passFrom_184 : decode prog_14_method_32_code 184 = .ok (.putfield 203, 3) := by decide +kernel
theorem dM_passFrom_187 : decode prog_14_method_32_code 187 = .ok (.iload 7, 2) := by decide +kernel
theorem dM_passFrom_189 : decode prog_14_method_32_code 189 = .ok (.iconst (-1), 1) := by decide +kernel
theorem dM_passFrom_190 : decode prog_14_method_32_code 190 = .ok (.if_icmp .eq (34), 3) := by decide +kernel
theorem dM_passFrom_193 : decode prog_14_method_32_code 193 = .ok (.iload 8, 2) := by decide +kernel
theorem dM_passFrom_195 : decode prog_14_method_32_code 195 = .ok (.iconst (-1), 1) := by decide +kernel
theorem dM_passFrom_196 : decode prog_14_method_32_code 196 = .ok (.if_icmp .eq (28), 3) := by decide +kernel
theorem dM_passFrom_199 : decode prog_14_method_32_code 199 = .ok (.aload_n 0, 1) := by decide +kernel
theorem dM_passFrom_200 : decode prog_14_method_32_code 200 = .ok (.iconst (1), 1) := by decide +kernel
theorem dM_passFrom_201 : decode prog_14_method_32_code 201 = .ok (.putfield 206, 3) := by decide +kernel
theorem dM_passFrom_204 : decode prog_14_method_32_code 204 = .ok (.aload_n 0, 1) := by decide +kernel
theorem dM_passFrom_205 : decode prog_14_method_32_code 205 = .ok (.bipush (25), 2) := by decide +kernel
theorem dM_passFrom_207 : decode prog_14_method_32_code 207 = .ok (.iload 8, 2) := by decide +kernel
theorem dM_passFrom_209 : decode prog_14_method_32_code 209 = .ok (.imul, 1) := by decide +kernel
theorem dM_passFrom_210 : decode prog_14_method_32_code 210 = .ok (.iload 7, 2) := by decide +kernel
theorem dM_passFrom_212 : decode prog_14_method_32_code 212 = .ok (.iadd, 1) := by decide +kernel
theorem dM_passFrom_213 : decode prog_14_method_32_code 213 = .ok (.iload_n 3, 1) := by decide +kernel
theorem dM_passFrom_214 : decode prog_14_method_32_code 214 = .ok (.iconst (2), 1) := by decide +kernel
theorem dM_passFrom_215 : decode prog_14_method_32_code 215 = .ok (.iload 6, 2) := by decide +kernel
theorem dM_passFrom_217 : decode prog_14_method_32_code 217 = .ok (.imul, 1) := by decide +kernel
theorem dM_passFrom_218 : decode prog_14_method_32_code 218 = .ok (.iconst (1), 1) := by decide +kernel
theorem dM_passFrom_219 : decode prog_14_method_32_code 219 = .ok (.iadd, 1) := by decide +kernel
theorem dM_passFrom_220 : decode prog_14_method_32_code 220 = .ok (.invokevirtual 212, 3) := by decide +kernel
theorem dM_passFrom_223 : decode prog_14_method_32_code 223 = .ok (.pop, 1) := by decide +kernel
theorem dM_passFrom_224 : decode prog_14_method_32_code 224 = .ok (.iinc 6 (1), 3) := by decide +kernel
theorem dM_passFrom_227 : decode prog_14_method_32_code 227 = .ok (.goto (-192), 3) := by decide +kernel
theorem dM_passFrom_230 : decode prog_14_method_32_code 230 = .ok (.return_, 1) := by decide +kernel
theorem dM_walk_0 : decode prog_14_method_33_code 0 = .ok (.aload_n 0, 1) := by decide +kernel
theorem dM_walk_1 : decode prog_14_method_33_code 1 = .ok (.invokevirtual 218, 3) := by decide +kernel
theorem dM_walk_4 : decode prog_14_method_33_code 4 = .ok (.aload_n 0, 1) := by decide +kernel
theorem dM_walk_5 : decode prog_14_method_33_code 5 = .ok (.iconst (0), 1) := by decide +kernel
theorem dM_walk_6 : decode prog_14_method_33_code 6 = .ok (.iconst (0), 1) := by decide +kernel
theorem dM_walk_7 : decode prog_14_method_33_code 7 = .ok (.iconst (0), 1) := by decide +kernel
theorem dM_walk_8 : decode prog_14_method_33_code 8 = .ok (.invokevirtual 212, 3) := by decide +kernel
theorem dM_walk_11 : decode prog_14_method_33_code 11 = .ok (.pop, 1) := by decide +kernel
theorem dM_walk_12 : decode prog_14_method_33_code 12 = .ok (.iconst (0), 1) := by decide +kernel
theorem dM_walk_13 : decode prog_14_method_33_code 13 = .ok (.istore 4, 2) := by decide +kernel
theorem dM_walk_15 : decode prog_14_method_33_code 15 = .ok (.iconst (0), 1) := by decide +kernel
theorem dM_walk_16 : decode prog_14_method_33_code 16 = .ok (.istore 5, 2) := by decide +kernel
theorem dM_walk_18 : decode prog_14_method_33_code 18 = .ok (.iload 5, 2) := by decide +kernel
theorem dM_walk_20 : decode prog_14_method_33_code 20 = .ok (.aload_n 0, 1) := by decide +kernel
theorem dM_walk_21 : decode prog_14_method_33_code 21 = .ok (.getfield 196, 3) := by decide +kernel
theorem dM_walk_24 : decode prog_14_method_33_code 24 = .ok (.if_icmp .ge (129), 3) := by decide +kernel
theorem dM_walk_27 : decode prog_14_method_33_code 27 = .ok (.iload_n 3, 1) := by decide +kernel
theorem dM_walk_28 : decode prog_14_method_33_code 28 = .ok (.ifCond .ne (8), 3) := by decide +kernel
theorem dM_walk_31 : decode prog_14_method_33_code 31 = .ok (.iload 4, 2) := by decide +kernel
theorem dM_walk_33 : decode prog_14_method_33_code 33 = .ok (.ifCond .ne (120), 3) := by decide +kernel
theorem dM_walk_36 : decode prog_14_method_33_code 36 = .ok (.aload_n 0, 1) := by decide +kernel
theorem dM_walk_37 : decode prog_14_method_33_code 37 = .ok (.iload_n 1, 1) := by decide +kernel
theorem dM_walk_38 : decode prog_14_method_33_code 38 = .ok (.iload_n 2, 1) := by decide +kernel
theorem dM_walk_39 : decode prog_14_method_33_code 39 = .ok (.iload 5, 2) := by decide +kernel
theorem dM_walk_41 : decode prog_14_method_33_code 41 = .ok (.invokevirtual 221, 3) := by decide +kernel
theorem dM_walk_44 : decode prog_14_method_33_code 44 = .ok (.aload_n 0, 1) := by decide +kernel
theorem dM_walk_45 : decode prog_14_method_33_code 45 = .ok (.getfield 20, 3) := by decide +kernel
theorem dM_walk_48 : decode prog_14_method_33_code 48 = .ok (.bipush (25), 2) := by decide +kernel
theorem dM_walk_50 : decode prog_14_method_33_code 50 = .ok (.iload_n 1, 1) := by decide +kernel
theorem dM_walk_51 : decode prog_14_method_33_code 51 = .ok (.imul, 1) := by decide +kernel
theorem dM_walk_52 : decode prog_14_method_33_code 52 = .ok (.aload_n 0, 1) := by decide +kernel
theorem dM_walk_53 : decode prog_14_method_33_code 53 = .ok (.getfield 82, 3) := by decide +kernel
theorem dM_walk_56 : decode prog_14_method_33_code 56 = .ok (.iload 5, 2) := by decide +kernel
theorem dM_walk_58 : decode prog_14_method_33_code 58 = .ok (.iaload, 1) := by decide +kernel
theorem dM_walk_59 : decode prog_14_method_33_code 59 = .ok (.bipush (25), 2) := by decide +kernel
theorem dM_walk_61 : decode prog_14_method_33_code 61 = .ok (.idiv, 1) := by decide +kernel
theorem dM_walk_62 : decode prog_14_method_33_code 62 = .ok (.iadd, 1) := by decide +kernel
theorem dM_walk_63 : decode prog_14_method_33_code 63 = .ok (.baload, 1) := by decide +kernel
theorem dM_walk_64 : decode prog_14_method_33_code 64 = .ok (.ifCond .eq (30), 3) := by decide +kernel
theorem dM_walk_67 : decode prog_14_method_33_code 67 = .ok (.aload_n 0, 1) := by decide +kernel
theorem dM_walk_68 : decode prog_14_method_33_code 68 = .ok (.getfield 20, 3) := by decide +kernel
theorem dM_walk_71 : decode prog_14_method_33_code 71 = .ok (.bipush (25), 2) := by decide +kernel
theorem dM_walk_73 : decode prog_14_method_33_code 73 = .ok (.iload_n 2, 1) := by decide +kernel
theorem dM_walk_74 : decode prog_14_method_33_code 74 = .ok (.imul, 1) := by decide +kernel
theorem dM_walk_75 : decode prog_14_method_33_code 75 = .ok (.aload_n 0, 1) := by decide +kernel
theorem dM_walk_76 : decode prog_14_method_33_code 76 = .ok (.getfield 82, 3) := by decide +kernel
theorem dM_walk_79 : decode prog_14_method_33_code 79 = .ok (.iload 5, 2) := by decide +kernel
theorem dM_walk_81 : decode prog_14_method_33_code 81 = .ok (.iaload, 1) := by decide +kernel
theorem dM_walk_82 : decode prog_14_method_33_code 82 = .ok (.bipush (25), 2) := by decide +kernel
theorem dM_walk_84 : decode prog_14_method_33_code 84 = .ok (.irem, 1) := by decide +kernel
theorem dM_walk_85 : decode prog_14_method_33_code 85 = .ok (.iadd, 1) := by decide +kernel
theorem dM_walk_86 : decode prog_14_method_33_code 86 = .ok (.baload, 1) := by decide +kernel
theorem dM_walk_87 : decode prog_14_method_33_code 87 = .ok (.ifCond .eq (7), 3) := by decide +kernel
theorem dM_walk_90 : decode prog_14_method_33_code 90 = .ok (.iconst (1), 1) := by decide +kernel
theorem dM_walk_91 : decode prog_14_method_33_code 91 = .ok (.goto (4), 3) := by decide +kernel
theorem dM_walk_94 : decode prog_14_method_33_code 94 = .ok (.iconst (0), 1) := by decide +kernel
theorem dM_walk_95 : decode prog_14_method_33_code 95 = .ok (.istore 6, 2) := by decide +kernel
theorem dM_walk_97 : decode prog_14_method_33_code 97 = .ok (.aload_n 0, 1) := by decide +kernel
theorem dM_walk_98 : decode prog_14_method_33_code 98 = .ok (.getfield 203, 3) := by decide +kernel
theorem dM_walk_101 : decode prog_14_method_33_code 101 = .ok (.ifCond .eq (7), 3) := by decide +kernel
theorem dM_walk_104 : decode prog_14_method_33_code 104 = .ok (.iconst (2), 1) := by decide +kernel
theorem dM_walk_105 : decode prog_14_method_33_code 105 = .ok (.goto (20), 3) := by decide +kernel
theorem dM_walk_108 : decode prog_14_method_33_code 108 = .ok (.aload_n 0, 1) := by decide +kernel
theorem dM_walk_109 : decode prog_14_method_33_code 109 = .ok (.getfield 206, 3) := by decide +kernel
theorem dM_walk_112 : decode prog_14_method_33_code 112 = .ok (.ifCond .ne (12), 3) := by decide +kernel
theorem dM_walk_115 : decode prog_14_method_33_code 115 = .ok (.iload 6, 2) := by decide +kernel
theorem dM_walk_117 : decode prog_14_method_33_code 117 = .ok (.ifCond .ne (7), 3) := by decide +kernel
theorem dM_walk_120 : decode prog_14_method_33_code 120 = .ok (.iconst (1), 1) := by decide +kernel
theorem dM_walk_121 : decode prog_14_method_33_code 121 = .ok (.goto (4), 3) := by decide +kernel
theorem dM_walk_124 : decode prog_14_method_33_code 124 = .ok (.iconst (0), 1) := by decide +kernel
theorem dM_walk_125 : decode prog_14_method_33_code 125 = .ok (.istore 7, 2) := by decide +kernel
theorem dM_walk_127 : decode prog_14_method_33_code 127 = .ok (.iload 4, 2) := by decide +kernel
theorem dM_walk_129 : decode prog_14_method_33_code 129 = .ok (.ifCond .ne (18), 3) := by decide +kernel
theorem dM_walk_132 : decode prog_14_method_33_code 132 = .ok (.iload 7, 2) := by decide +kernel
theorem dM_walk_134 : decode prog_14_method_33_code 134 = .ok (.ifCond .le (13), 3) := by decide +kernel
theorem dM_walk_137 : decode prog_14_method_33_code 137 = .ok (.iload 7, 2) := by decide +kernel
theorem dM_walk_139 : decode prog_14_method_33_code 139 = .ok (.istore 4, 2) := by decide +kernel
theorem dM_walk_141 : decode prog_14_method_33_code 141 = .ok (.aload_n 0, 1) := by decide +kernel
theorem dM_walk_142 : decode prog_14_method_33_code 142 = .ok (.iload 5, 2) := by decide +kernel
theorem dM_walk_144 : decode prog_14_method_33_code 144 = .ok (.putfield 225, 3) := by decide +kernel
theorem dM_walk_147 : decode prog_14_method_33_code 147 = .ok (.iinc 5 (1), 3) := by decide +kernel
theorem dM_walk_150 : decode prog_14_method_33_code 150 = .ok (.goto (-132), 3) := by decide +kernel
theorem dM_walk_153 : decode prog_14_method_33_code 153 = .ok (.iload 4, 2) := by decide +kernel
theorem dM_walk_155 : decode prog_14_method_33_code 155 = .ok (.ireturn, 1) := by decide +kernel
theorem dM_sizeOf_0 : decode prog_14_method_34_code 0 = .ok (.iload_n 0, 1) := by decide +kernel
theorem dM_sizeOf_1 : decode prog_14_method_34_code 1 = .ok (.ifCond .ne (7), 3) := by decide +kernel
theorem dM_sizeOf_4 : decode prog_14_method_34_code 4 = .ok (.iconst (0), 1) := by decide +kernel
theorem dM_sizeOf_5 : decode prog_14_method_34_code 5 = .ok (.goto (14), 3) := by decide +kernel
theorem dM_sizeOf_8 : decode prog_14_method_34_code 8 = .ok (.iload_n 0, 1) := by decide +kernel
theorem dM_sizeOf_9 : decode prog_14_method_34_code 9 = .ok (.bipush (9), 2) := by decide +kernel
theorem dM_sizeOf_11 : decode prog_14_method_34_code 11 = .ok (.if_icmp .ge (7), 3) := by decide +kernel
theorem dM_sizeOf_14 : decode prog_14_method_34_code 14 = .ok (.iconst (1), 1) := by decide +kernel
theorem dM_sizeOf_15 : decode prog_14_method_34_code 15 = .ok (.goto (4), 3) := by decide +kernel
theorem dM_sizeOf_18 : decode prog_14_method_34_code 18 = .ok (.iconst (2), 1) := by decide +kernel
theorem dM_sizeOf_19 : decode prog_14_method_34_code 19 = .ok (.ireturn, 1) := by decide +kernel
theorem dM_behind_0 : decode prog_14_method_36_code 0 = .ok (.iload_n 0, 1) := by decide +kernel
theorem dM_behind_1 : decode prog_14_method_36_code 1 = .ok (.ifCond .ne (9), 3) := by decide +kernel
theorem dM_behind_4 : decode prog_14_method_36_code 4 = .ok (.iload_n 1, 1) := by decide +kernel
theorem dM_behind_5 : decode prog_14_method_36_code 5 = .ok (.iconst (1), 1) := by decide +kernel
theorem dM_behind_6 : decode prog_14_method_36_code 6 = .ok (.iadd, 1) := by decide +kernel
theorem dM_behind_7 : decode prog_14_method_36_code 7 = .ok (.goto (14), 3) := by decide +kernel
theorem dM_behind_10 : decode prog_14_method_36_code 10 = .ok (.bipush (9), 2) := by decide +kernel
theorem dM_behind_12 : decode prog_14_method_36_code 12 = .ok (.bipush (8), 2) := by decide +kernel
theorem dM_behind_14 : decode prog_14_method_36_code 14 = .ok (.iload_n 0, 1) := by decide +kernel
theorem dM_behind_15 : decode prog_14_method_36_code 15 = .ok (.iconst (1), 1) := by decide +kernel
theorem dM_behind_16 : decode prog_14_method_36_code 16 = .ok (.isub, 1) := by decide +kernel
theorem dM_behind_17 : decode prog_14_method_36_code 17 = .ok (.imul, 1) := by decide +kernel
theorem dM_behind_18 : decode prog_14_method_36_code 18 = .ok (.iadd, 1) := by decide +kernel
theorem dM_behind_19 : decode prog_14_method_36_code 19 = .ok (.iload_n 1, 1) := by decide +kernel
theorem dM_behind_20 : decode prog_14_method_36_code 20 = .ok (.iadd, 1) := by decide +kernel
theorem dM_behind_21 : decode prog_14_method_36_code 21 = .ok (.ireturn, 1) := by decide +kernel
theorem dM_code_0 : decode prog_14_method_38_code 0 = .ok (.iload_n 0, 1) := by decide +kernel
theorem dM_code_1 : decode prog_14_method_38_code 1 = .ok (.bipush (25), 2) := by decide +kernel
theorem dM_code_3 : decode prog_14_method_38_code 3 = .ok (.imul, 1) := by decide +kernel
theorem dM_code_4 : decode prog_14_method_38_code 4 = .ok (.iload_n 1, 1) := by decide +kernel
theorem dM_code_5 : decode prog_14_method_38_code 5 = .ok (.iadd, 1) := by decide +kernel
theorem dM_code_6 : decode prog_14_method_38_code 6 = .ok (.bipush (73), 2) := by decide +kernel
theorem dM_code_8 : decode prog_14_method_38_code 8 = .ok (.imul, 1) := by decide +kernel
theorem dM_code_9 : decode prog_14_method_38_code 9 = .ok (.iload_n 2, 1) := by decide +kernel
theorem dM_code_10 : decode prog_14_method_38_code 10 = .ok (.iadd, 1) := by decide +kernel
theorem dM_code_11 : decode prog_14_method_38_code 11 = .ok (.bipush (73), 2) := by decide +kernel
theorem dM_code_13 : decode prog_14_method_38_code 13 = .ok (.imul, 1) := by decide +kernel
theorem dM_code_14 : decode prog_14_method_38_code 14 = .ok (.iload_n 3, 1) := by decide +kernel
theorem dM_code_15 : decode prog_14_method_38_code 15 = .ok (.iadd, 1) := by decide +kernel
theorem dM_code_16 : decode prog_14_method_38_code 16 = .ok (.ireturn, 1) := by decide +kernel
theorem dM_come_0 : decode prog_14_method_39_code 0 = .ok (.aload_n 0, 1) := by decide +kernel
theorem dM_come_1 : decode prog_14_method_39_code 1 = .ok (.iconst (1), 1) := by decide +kernel
theorem dM_come_2 : decode prog_14_method_39_code 2 = .ok (.putfield 206, 3) := by decide +kernel
theorem dM_come_5 : decode prog_14_method_39_code 5 = .ok (.aload_n 0, 1) := by decide +kernel
theorem dM_come_6 : decode prog_14_method_39_code 6 = .ok (.aload_n 0, 1) := by decide +kernel
theorem dM_come_7 : decode prog_14_method_39_code 7 = .ok (.getfield 228, 3) := by decide +kernel
theorem dM_come_10 : decode prog_14_method_39_code 10 = .ok (.ifCond .ne (13), 3) := by decide +kernel
theorem dM_come_13 : decode prog_14_method_39_code 13 = .ok (.aload_n 0, 1) := by decide +kernel
theorem dM_come_14 : decode prog_14_method_39_code 14 = .ok (.iload_n 1, 1) := by decide +kernel
theorem dM_come_15 : decode prog_14_method_39_code 15 = .ok (.iload_n 2, 1) := by decide +kernel
theorem dM_come_16 : decode prog_14_method_39_code 16 = .ok (.iload_n 3, 1) := by decide +kernel
theorem dM_come_17 : decode prog_14_method_39_code 17 = .ok (.invokevirtual 212, 3) := by decide +kernel
theorem dM_come_20 : decode prog_14_method_39_code 20 = .ok (.ifCond .ne (7), 3) := by decide +kernel
theorem dM_come_23 : decode prog_14_method_39_code 23 = .ok (.iconst (1), 1) := by decide +kernel
theorem dM_come_24 : decode prog_14_method_39_code 24 = .ok (.goto (4), 3) := by decide +kernel
theorem dM_come_27 : decode prog_14_method_39_code 27 = .ok (.iconst (0), 1) := by decide +kernel
theorem dM_come_28 : decode prog_14_method_39_code 28 = .ok (.putfield 228, 3) := by decide +kernel
theorem dM_come_31 : decode prog_14_method_39_code 31 = .ok (.return_, 1) := by decide +kernel
theorem dM_front_0 : decode prog_14_method_35_code 0 = .ok (.iload_n 0, 1) := by decide +kernel
theorem dM_front_1 : decode prog_14_method_35_code 1 = .ok (.bipush (9), 2) := by decide +kernel
theorem dM_front_3 : decode prog_14_method_35_code 3 = .ok (.if_icmp .ge (9), 3) := by decide +kernel
theorem dM_front_6 : decode prog_14_method_35_code 6 = .ok (.iload_n 0, 1) := by decide +kernel
theorem dM_front_7 : decode prog_14_method_35_code 7 = .ok (.iconst (1), 1) := by decide +kernel
theorem dM_front_8 : decode prog_14_method_35_code 8 = .ok (.isub, 1) := by decide +kernel
theorem dM_front_9 : decode prog_14_method_35_code 9 = .ok (.goto (10), 3) := by decide +kernel
theorem dM_front_12 : decode prog_14_method_35_code 12 = .ok (.iload_n 0, 1) := by decide +kernel
theorem dM_front_13 : decode prog_14_method_35_code 13 = .ok (.bipush (9), 2) := by decide +kernel
theorem dM_front_15 : decode prog_14_method_35_code 15 = .ok (.isub, 1) := by decide +kernel
theorem dM_front_16 : decode prog_14_method_35_code 16 = .ok (.bipush (8), 2) := by decide +kernel
theorem dM_front_18 : decode prog_14_method_35_code 18 = .ok (.idiv, 1) := by decide +kernel
theorem dM_front_19 : decode prog_14_method_35_code 19 = .ok (.ireturn, 1) := by decide +kernel
theorem dM_rest_0 : decode prog_14_method_37_code 0 = .ok (.iload_n 0, 1) := by decide +kernel
theorem dM_rest_1 : decode prog_14_method_37_code 1 = .ok (.bipush (9), 2) := by decide +kernel
theorem dM_rest_3 : decode prog_14_method_37_code 3 = .ok (.if_icmp .ge (7), 3) := by decide +kernel
theorem dM_rest_6 : decode prog_14_method_37_code 6 = .ok (.iconst (0), 1) := by decide +kernel
theorem dM_rest_7 : decode prog_14_method_37_code 7 = .ok (.goto (12), 3) := by decide +kernel
theorem dM_rest_10 : decode prog_14_method_37_code 10 = .ok (.iload_n 0, 1) := by decide +kernel
theorem dM_rest_11 : decode prog_14_method_37_code 11 = .ok (.bipush (9), 2) := by decide +kernel
theorem dM_rest_13 : decode prog_14_method_37_code 13 = .ok (.isub, 1) := by decide +kernel
theorem dM_rest_14 : decode prog_14_method_37_code 14 = .ok (.bipush (8), 2) := by decide +kernel
theorem dM_rest_16 : decode prog_14_method_37_code 16 = .ok (.irem, 1) := by decide +kernel
theorem dM_rest_17 : decode prog_14_method_37_code 17 = .ok (.iconst (1), 1) := by decide +kernel
theorem dM_rest_18 : decode prog_14_method_37_code 18 = .ok (.iadd, 1) := by decide +kernel
theorem dM_rest_19 : decode prog_14_method_37_code 19 = .ok (.ireturn, 1) := by decide +kernel
theorem dM_actFrom_0 : decode prog_14_method_40_code 0 = .ok (.aload_n 0, 1) := by decide +kernel
theorem dM_actFrom_1 : decode prog_14_method_40_code 1 = .ok (.getfield 82, 3) := by decide +kernel
theorem dM_actFrom_4 : decode prog_14_method_40_code 4 = .ok (.iload 4, 2) := by decide +kernel
theorem dM_actFrom_6 : decode prog_14_method_40_code 6 = .ok (.iaload, 1) := by decide +kernel
theorem dM_actFrom_7 : decode prog_14_method_40_code 7 = .ok (.bipush (73), 2) := by decide +kernel
theorem dM_actFrom_9 : decode prog_14_method_40_code 9 = .ok (.irem, 1) := by decide +kernel
theorem dM_actFrom_10 : decode prog_14_method_40_code 10 = .ok (.istore 5, 2) := by decide +kernel
theorem dM_actFrom_12 : decode prog_14_method_40_code 12 = .ok (.aload_n 0, 1) := by decide +kernel
theorem dM_actFrom_13 : decode prog_14_method_40_code 13 = .ok (.getfield 82, 3) := by decide +kernel
theorem dM_actFrom_16 : decode prog_14_method_40_code 16 = .ok (.iload 4, 2) := by decide +kernel
theorem dM_actFrom_18 : decode prog_14_method_40_code 18 = .ok (.iaload, 1) := by decide +kernel
theorem dM_actFrom_19 : decode prog_14_method_40_code 19 = .ok (.bipush (73), 2) := by decide +kernel
theorem dM_actFrom_21 : decode prog_14_method_40_code 21 = .ok (.idiv, 1) := by decide +kernel
theorem dM_actFrom_22 : decode prog_14_method_40_code 22 = .ok (.bipush (73), 2) := by decide +kernel
theorem dM_actFrom_24 : decode prog_14_method_40_code 24 = .ok (.irem, 1) := by decide +kernel
theorem dM_actFrom_25 : decode prog_14_method_40_code 25 = .ok (.istore 6, 2) := by decide +kernel
theorem dM_actFrom_27 : decode prog_14_method_40_code 27 = .ok (.aload_n 0, 1) := by decide +kernel
theorem dM_actFrom_28 : decode prog_14_method_40_code 28 = .ok (.getfield 82, 3) := by decide +kernel
theorem dM_actFrom_31 : decode prog_14_method_40_code 31 = .ok (.iload 4, 2) := by decide +kernel
theorem dM_actFrom_33 : decode prog_14_method_40_code 33 = .ok (.iaload, 1) := by decide +kernel
theorem dM_actFrom_34 : decode prog_14_method_40_code 34 = .ok (.sipush (5329), 3) := by decide +kernel
theorem dM_actFrom_37 : decode prog_14_method_40_code 37 = .ok (.idiv, 1) := by decide +kernel
theorem dM_actFrom_38 : decode prog_14_method_40_code 38 = .ok (.bipush (25), 2) := by decide +kernel
theorem dM_actFrom_40 : decode prog_14_method_40_code 40 = .ok (.irem, 1) := by decide +kernel
theorem dM_actFrom_41 : decode prog_14_method_40_code 41 = .ok (.istore 7, 2) := by decide +kernel
theorem dM_actFrom_43 : decode prog_14_method_40_code 43 = .ok (.aload_n 0, 1) := by decide +kernel
theorem dM_actFrom_44 : decode prog_14_method_40_code 44 = .ok (.getfield 82, 3) := by decide +kernel
theorem dM_actFrom_47 : decode prog_14_method_40_code 47 = .ok (.iload 4, 2) := by decide +kernel
theorem dM_actFrom_49 : decode prog_14_method_40_code 49 = .ok (.iaload, 1) := by decide +kernel
theorem dM_actFrom_50 : decode prog_14_method_40_code 50 = .ok (.ldc 231, 2) := by decide +kernel
theorem dM_actFrom_52 : decode prog_14_method_40_code 52 = .ok (.idiv, 1) := by decide +kernel
theorem dM_actFrom_53 : decode prog_14_method_40_code 53 = .ok (.istore 8, 2) := by decide +kernel
theorem dM_actFrom_55 : decode prog_14_method_40_code 55 = .ok (.aload_n 0, 1) := by decide +kernel
theorem dM_actFrom_56 : decode prog_14_method_40_code 56 = .ok (.iconst (0), 1) := by decide +kernel
theorem dM_actFrom_57 : decode prog_14_method_40_code 57 = .ok (.putfield 206, 3) := by decide +kernel
theorem dM_actFrom_60 : decode prog_14_method_40_code 60 = .ok (.iconst (0), 1) := by decide +kernel
theorem dM_actFrom_61 : decode prog_14_method_40_code 61 = .ok (.istore 9, 2) := by decide +kernel
theorem dM_actFrom_63 : decode prog_14_method_40_code 63 = .ok (.iload 9, 2) := by decide +kernel
theorem dM_actFrom_65 : decode prog_14_method_40_code 65 = .ok (.bipush (8), 2) := by decide +kernel
theorem dM_actFrom_67 : decode prog_14_method_40_code 67 = .ok (.if_icmp .ge (64), 3) := by decide +kernel
theorem dM_actFrom_70 : decode prog_14_method_40_code 70 = .ok (.aload_n 0, 1) := by decide +kernel
theorem dM_actFrom_71 : decode prog_14_method_40_code 71 = .ok (.getfield 17, 3) := by decide +kernel
theorem dM_actFrom_74 : decode prog_14_method_40_code 74 = .ok (.iload_n 1, 1) := by decide +kernel
theorem dM_actFrom_75 : decode prog_14_method_40_code 75 = .ok (.iload 8, 2) := by decide +kernel
theorem dM_actFrom_77 : decode prog_14_method_40_code 77 = .ok (.iconst (1), 1) := by decide +kernel
theorem dM_actFrom_78 : decode prog_14_method_40_code 78 = .ok (.iload 9, 2) := by decide +kernel
theorem dM_actFrom_80 : decode prog_14_method_40_code 80 = .ok (.invokestatic 176, 3) := by decide +kernel
theorem dM_actFrom_83 : decode prog_14_method_40_code 83 = .ok (.iaload, 1) := by decide +kernel
theorem dM_actFrom_84 : decode prog_14_method_40_code 84 = .ok (.istore 10, 2) := by decide +kernel
theorem dM_actFrom_86 : decode prog_14_method_40_code 86 = .ok (.iload 10, 2) := by decide +kernel
theorem dM_actFrom_88 : decode prog_14_method_40_code 88 = .ok (.iconst (-1), 1) := by decide +kernel
theorem dM_actFrom_89 : decode prog_14_method_40_code 89 = .ok (.if_icmp .eq (36), 3) := by decide +kernel
theorem dM_actFrom_92 : decode prog_14_method_40_code 92 = .ok (.iload 6, 2) := by decide +kernel
theorem dM_actFrom_94 : decode prog_14_method_40_code 94 = .ok (.invokestatic 232, 3) := by decide +kernel
theorem dM_actFrom_97 : decode prog_14_method_40_code 97 = .ok (.iload_n 3, 1) := by decide +kernel
theorem dM_actFrom_98 : decode prog_14_method_40_code 98 = .ok (.if_icmp .ge (27), 3) := by decide +kernel
theorem dM_actFrom_101 : decode prog_14_method_40_code 101 = .ok (.aload_n 0, 1) := by decide +kernel
theorem dM_actFrom_102 : decode prog_14_method_40_code 102 = .ok (.iload 10, 2) := by decide +kernel
theorem dM_actFrom_104 : decode prog_14_method_40_code 104 = .ok (.iload 7, 2) := by decide +kernel
theorem dM_actFrom_106 : decode prog_14_method_40_code 106 = .ok (.iload 6, 2) := by decide +kernel
theorem dM_actFrom_108 : decode prog_14_method_40_code 108 = .ok (.iload 9, 2) := by decide +kernel
theorem dM_actFrom_110 : decode prog_14_method_40_code 110 = .ok (.invokestatic 236, 3) := by decide +kernel
theorem dM_actFrom_113 : decode prog_14_method_40_code 113 = .ok (.iload 5, 2) := by decide +kernel
theorem dM_actFrom_115 : decode prog_14_method_40_code 115 = .ok (.invokestatic 239, 3) := by decide +kernel
theorem dM_actFrom_118 : decode prog_14_method_40_code 118 = .ok (.iload 4, 2) := by decide +kernel
theorem dM_actFrom_120 : decode prog_14_method_40_code 120 = .ok (.iload 9, 2) := by decide +kernel
theorem dM_actFrom_122 : decode prog_14_method_40_code 122 = .ok (.invokevirtual 242, 3) := by decide +kernel
theorem dM_actFrom_125 : decode prog_14_method_40_code 125 = .ok (.iinc 9 (1), 3) := by decide +kernel
theorem dM_actFrom_128 : decode prog_14_method_40_code 128 = .ok (.goto (-65), 3) := by decide +kernel
theorem dM_actFrom_131 : decode prog_14_method_40_code 131 = .ok (.iconst (0), 1) := by decide +kernel
theorem dM_actFrom_132 : decode prog_14_method_40_code 132 = .ok (.istore 9, 2) := by decide +kernel
theorem dM_actFrom_134 : decode prog_14_method_40_code 134 = .ok (.iload 9, 2) := by decide +kernel
theorem dM_actFrom_136 : decode prog_14_method_40_code 136 = .ok (.bipush (8), 2) := by decide +kernel
theorem dM_actFrom_138 : decode prog_14_method_40_code 138 = .ok (.if_icmp .ge (67), 3) := by decide +kernel
theorem dM_actFrom_141 : decode prog_14_method_40_code 141 = .ok (.aload_n 0, 1) := by decide +kernel
theorem dM_actFrom_142 : decode prog_14_method_40_code 142 = .ok (.getfield 17, 3) := by decide +kernel
theorem dM_actFrom_145 : decode prog_14_method_40_code 145 = .ok (.iload_n 2, 1) := by decide +kernel
theorem dM_actFrom_146 : decode prog_14_method_40_code 146 = .ok (.iload 7, 2) := by decide +kernel
theorem dM_actFrom_148 : decode prog_14_method_40_code 148 = .ok (.iconst (1), 1) := by decide +kernel
theorem dM_actFrom_149 : decode prog_14_method_40_code 149 = .ok (.iload 9, 2) := by decide +kernel
theorem dM_actFrom_151 : decode prog_14_method_40_code 151 = .ok (.invokestatic 176, 3) := by decide +kernel
theorem dM_actFrom_154 : decode prog_14_method_40_code 154 = .ok (.iaload, 1) := by decide +kernel
theorem dM_actFrom_155 : decode prog_14_method_40_code 155 = .ok (.istore 10, 2) := by decide +kernel
theorem dM_actFrom_157 : decode prog_14_method_40_code 157 = .ok (.iload 10, 2) := by decide +kernel
theorem dM_actFrom_159 : decode prog_14_method_40_code 159 = .ok (.iconst (-1), 1) := by decide +kernel
theorem dM_actFrom_160 : decode prog_14_method_40_code 160 = .ok (.if_icmp .eq (39), 3) := by decide +kernel
theorem dM_actFrom_163 : decode prog_14_method_40_code 163 = .ok (.iload 5, 2) := by decide +kernel
theorem dM_actFrom_165 : decode prog_14_method_40_code 165 = .ok (.invokestatic 232, 3) := by decide +kernel
theorem dM_actFrom_168 : decode prog_14_method_40_code 168 = .ok (.iload_n 3, 1) := by decide +kernel
theorem dM_actFrom_169 : decode prog_14_method_40_code 169 = .ok (.if_icmp .ge (30), 3) := by decide +kernel
theorem dM_actFrom_172 : decode prog_14_method_40_code 172 = .ok (.aload_n 0, 1) := by decide +kernel
theorem dM_actFrom_173 : decode prog_14_method_40_code 173 = .ok (.iload 8, 2) := by decide +kernel
theorem dM_actFrom_175 : decode prog_14_method_40_code 175 = .ok (.iload 10, 2) := by decide +kernel
theorem dM_actFrom_177 : decode prog_14_method_40_code 177 = .ok (.iload 6, 2) := by decide +kernel
theorem dM_actFrom_179 : decode prog_14_method_40_code 179 = .ok (.iload 5, 2) := by decide +kernel
theorem dM_actFrom_181 : decode prog_14_method_40_code 181 = .ok (.iload 9, 2) := by decide +kernel
theorem dM_actFrom_183 : decode prog_14_method_40_code 183 = .ok (.invokestatic 236, 3) := by decide +kernel
theorem dM_actFrom_186 : decode prog_14_method_40_code 186 = .ok (.invokestatic 239, 3) := by decide +kernel
theorem dM_actFrom_189 : decode prog_14_method_40_code 189 = .ok (.iload 4, 2) := by decide +kernel
theorem dM_actFrom_191 : decode prog_14_method_40_code 191 = .ok (.bipush (8), 2) := by decide +kernel
theorem dM_actFrom_193 : decode prog_14_method_40_code 193 = .ok (.iload 9, 2) := by decide +kernel
theorem dM_actFrom_195 : decode prog_14_method_40_code 195 = .ok (.iadd, 1) := by decide +kernel
theorem dM_actFrom_196 : decode prog_14_method_40_code 196 = .ok (.invokevirtual 242, 3) := by decide +kernel
theorem dM_actFrom_199 : decode prog_14_method_40_code 199 = .ok (.iinc 9 (1), 3) := by decide +kernel
theorem dM_actFrom_202 : decode prog_14_method_40_code 202 = .ok (.goto (-68), 3) := by decide +kernel
theorem dM_actFrom_205 : decode prog_14_method_40_code 205 = .ok (.iload 5, 2) := by decide +kernel
theorem dM_actFrom_207 : decode prog_14_method_40_code 207 = .ok (.ifCond .le (61), 3) := by decide +kernel
theorem dM_actFrom_210 : decode prog_14_method_40_code 210 = .ok (.aload_n 0, 1) := by decide +kernel
theorem dM_actFrom_211 : decode prog_14_method_40_code 211 = .ok (.getfield 17, 3) := by decide +kernel
theorem dM_actFrom_214 : decode prog_14_method_40_code 214 = .ok (.iload_n 1, 1) := by decide +kernel
theorem dM_actFrom_215 : decode prog_14_method_40_code 215 = .ok (.iload 8, 2) := by decide +kernel
theorem dM_actFrom_217 : decode prog_14_method_40_code 217 = .ok (.iconst (0), 1) := by decide +kernel
theorem dM_actFrom_218 : decode prog_14_method_40_code 218 = .ok (.iload 5, 2) := by decide +kernel
theorem dM_actFrom_220 : decode prog_14_method_40_code 220 = .ok (.invokestatic 245, 3) := by decide +kernel
theorem dM_actFrom_223 : decode prog_14_method_40_code 223 = .ok (.invokestatic 176, 3) := by decide +kernel
theorem dM_actFrom_226 : decode prog_14_method_40_code 226 = .ok (.iaload, 1) := by decide +kernel
theorem dM_actFrom_227 : decode prog_14_method_40_code 227 = .ok (.iconst (-1), 1) := by decide +kernel
theorem dM_actFrom_228 : decode prog_14_method_40_code 228 = .ok (.if_icmp .eq (40), 3) := by decide +kernel
theorem dM_actFrom_231 : decode prog_14_method_40_code 231 = .ok (.aload_n 0, 1) := by decide +kernel
theorem dM_actFrom_232 : decode prog_14_method_40_code 232 = .ok (.aload_n 0, 1) := by decide +kernel
theorem dM_actFrom_233 : decode prog_14_method_40_code 233 = .ok (.getfield 17, 3) := by decide +kernel
theorem dM_actFrom_236 : decode prog_14_method_40_code 236 = .ok (.iload_n 1, 1) := by decide +kernel
theorem dM_actFrom_237 : decode prog_14_method_40_code 237 = .ok (.iload 8, 2) := by decide +kernel
theorem dM_actFrom_239 : decode prog_14_method_40_code 239 = .ok (.iconst (0), 1) := by decide +kernel
theorem dM_actFrom_240 : decode prog_14_method_40_code 240 = .ok (.iload 5, 2) := by decide +kernel
theorem dM_actFrom_242 : decode prog_14_method_40_code 242 = .ok (.invokestatic 245, 3) := by decide +kernel
theorem dM_actFrom_245 : decode prog_14_method_40_code 245 = .ok (.invokestatic 176, 3) := by decide +kernel
theorem dM_actFrom_248 : decode prog_14_method_40_code 248 = .ok (.iaload, 1) := by decide +kernel
theorem dM_actFrom_249 : decode prog_14_method_40_code 249 = .ok (.iload 7, 2) := by decide +kernel
theorem dM_actFrom_251 : decode prog_14_method_40_code 251 = .ok (.iload 6, 2) := by decide +kernel
theorem dM_actFrom_253 : decode prog_14_method_40_code 253 = .ok (.iload 5, 2) := by decide +kernel
theorem dM_actFrom_255 : decode prog_14_method_40_code 255 = .ok (.invokestatic 248, 3) := by decide +kernel
theorem dM_actFrom_258 : decode prog_14_method_40_code 258 = .ok (.invokestatic 239, 3) := by decide +kernel
theorem dM_actFrom_261 : decode prog_14_method_40_code 261 = .ok (.iload 4, 2) := by decide +kernel
theorem dM_actFrom_263 : decode prog_14_method_40_code 263 = .ok (.bipush (16), 2) := by decide +kernel
theorem dM_actFrom_265 : decode prog_14_method_40_code 265 = .ok (.invokevirtual 242, 3) := by decide +kernel
theorem dM_actFrom_268 : decode prog_14_method_40_code 268 = .ok (.iload 6, 2) := by decide +kernel
theorem dM_actFrom_270 : decode prog_14_method_40_code 270 = .ok (.ifCond .le (61), 3) := by decide +kernel
theorem dM_actFrom_273 : decode prog_14_method_40_code 273 = .ok (.aload_n 0, 1) := by decide +kernel
theorem dM_actFrom_274 : decode prog_14_method_40_code 274 = .ok (.getfield 17, 3) := by decide +kernel
theorem dM_actFrom_277 : decode prog_14_method_40_code 277 = .ok (.iload_n 2, 1) := by decide +kernel
theorem dM_actFrom_278 : decode prog_14_method_40_code 278 = .ok (.iload 7, 2) := by decide +kernel
theorem dM_actFrom_280 : decode prog_14_method_40_code 280 = .ok (.iconst (0), 1) := by decide +kernel
theorem dM_actFrom_281 : decode prog_14_method_40_code 281 = .ok (.iload 6, 2) := by decide +kernel
theorem dM_actFrom_283 : decode prog_14_method_40_code 283 = .ok (.invokestatic 245, 3) := by decide +kernel
theorem dM_actFrom_286 : decode prog_14_method_40_code 286 = .ok (.invokestatic 176, 3) := by decide +kernel
theorem dM_actFrom_289 : decode prog_14_method_40_code 289 = .ok (.iaload, 1) := by decide +kernel
theorem dM_actFrom_290 : decode prog_14_method_40_code 290 = .ok (.iconst (-1), 1) := by decide +kernel
theorem dM_actFrom_291 : decode prog_14_method_40_code 291 = .ok (.if_icmp .eq (40), 3) := by decide +kernel
theorem dM_actFrom_294 : decode prog_14_method_40_code 294 = .ok (.aload_n 0, 1) := by decide +kernel
theorem dM_actFrom_295 : decode prog_14_method_40_code 295 = .ok (.iload 8, 2) := by decide +kernel
theorem dM_actFrom_297 : decode prog_14_method_40_code 297 = .ok (.aload_n 0, 1) := by decide +kernel
