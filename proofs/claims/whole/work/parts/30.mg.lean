theorem v_M_init {l : Launch} {E : EN} {R : Room} {B : (Nat × Nat) × (Nat × Nat)} {Qf : QF} {h0 : AH} {o : Nat} {hF : AH} (hR1 : 1 ≤ R.frames) (hR2 : 64 ≤ R.locals) (Hr : ∀ (pc : Nat) (L : List (Option Value)), decode mi_M_init.2.1 pc = .ok (.return_, 1) → AW l E mi_M_init R B Qf pc L [] hF) (hf : f_M_init h0 o = some hF) : AW l E mi_M_init R B Qf 0 [some (va_rf (some o))] [] h0 := by
  unfold f_M_init at hf
  refine ax_aload_n (i := 0) (some o) dM_init_0 rfl rfl ?_
  refine ax_objInit w_1012 w_obi w_obc (Nat.le_trans (Nat.le_of_ble_eq_true rfl) hR1) (Nat.le_trans (Nat.le_of_ble_eq_true rfl) hR2) (Nat.le_of_ble_eq_true rfl) dM_init_1 ?_
  refine ax_aload_n (i := 0) (some o) dM_init_4 rfl rfl ?_
  refine ax_bipush (80 : Int32) dM_init_5 k8_80 ?_
  replace hf := bd1_s hf
  obtain ⟨h1, e_h1, hf⟩ := hf
  refine ax_newa (d := 3) (Or.inr (Or.inr (Or.inl rfl))) rfl w_ac3 dM_init_7 e_h1 ?_
  replace hf := bd1_s hf
  obtain ⟨h2, e_h2, hf⟩ := hf
  refine ax_putR (v := (some (hM h0))) fw_1014 rfl rfl dM_init_9 e_h2 ?_
  refine ax_aload_n (i := 0) (some o) dM_init_12 rfl rfl ?_
  refine ax_bipush (6 : Int32) dM_init_13 k8_6 ?_
  replace hf := bd1_s hf
  obtain ⟨h3, e_h3, hf⟩ := hf
  refine ax_newa (d := 1) (Or.inl rfl) rfl w_ac1 dM_init_15 e_h3 ?_
  replace hf := bd1_s hf
  obtain ⟨h4, e_h4, hf⟩ := hf
  refine ax_putR (v := (some (hM h2))) fw_1016 rfl rfl dM_init_17 e_h4 ?_
  refine ax_aload_n (i := 0) (some o) dM_init_20 rfl rfl ?_
  refine ax_sipush (2400 : Int32) dM_init_21 k16_2400 ?_
  replace hf := bd1_s hf
  obtain ⟨h5, e_h5, hf⟩ := hf
  refine ax_newa (d := 1) (Or.inl rfl) rfl w_ac1 dM_init_24 e_h5 ?_
  replace hf := bd1_s hf
  obtain ⟨h6, e_h6, hf⟩ := hf
  refine ax_putR (v := (some (hM h4))) fw_1017 rfl rfl dM_init_26 e_h6 ?_
  refine ax_aload_n (i := 0) (some o) dM_init_29 rfl rfl ?_
  refine ax_sipush (150 : Int32) dM_init_30 k16_150 ?_
  replace hf := bd1_s hf
  obtain ⟨h7, e_h7, hf⟩ := hf
  refine ax_newa (d := 2) (Or.inr (Or.inl rfl)) rfl w_ac2 dM_init_33 e_h7 ?_
  replace hf := bd1_s hf
  obtain ⟨h8, e_h8, hf⟩ := hf
  refine ax_putR (v := (some (hM h6))) fw_1018 rfl rfl dM_init_35 e_h8 ?_
  refine ax_aload_n (i := 0) (some o) dM_init_38 rfl rfl ?_
  refine ax_bipush (8 : Int32) dM_init_39 k8_8 ?_
  replace hf := bd1_s hf
  obtain ⟨h9, e_h9, hf⟩ := hf
  refine ax_newa (d := 1) (Or.inl rfl) rfl w_ac1 dM_init_41 e_h9 ?_
  replace hf := bd1_s hf
  obtain ⟨h10, e_h10, hf⟩ := hf
  refine ax_putR (v := (some (hM h8))) fw_1023 rfl rfl dM_init_43 e_h10 ?_
  refine ax_aload_n (i := 0) (some o) dM_init_46 rfl rfl ?_
  refine ax_bipush (8 : Int32) dM_init_47 k8_8 ?_
  replace hf := bd1_s hf
  obtain ⟨h11, e_h11, hf⟩ := hf
  refine ax_newa (d := 1) (Or.inl rfl) rfl w_ac1 dM_init_49 e_h11 ?_
  replace hf := bd1_s hf
  obtain ⟨h12, e_h12, hf⟩ := hf
  refine ax_putR (v := (some (hM h10))) fw_1024 rfl rfl dM_init_51 e_h12 ?_
  refine ax_aload_n (i := 0) (some o) dM_init_54 rfl rfl ?_
  refine ax_bipush (8 : Int32) dM_init_55 k8_8 ?_
  replace hf := bd1_s hf
  obtain ⟨h13, e_h13, hf⟩ := hf
  refine ax_newa (d := 1) (Or.inl rfl) rfl w_ac1 dM_init_57 e_h13 ?_
  replace hf := bd1_s hf
  obtain ⟨h14, e_h14, hf⟩ := hf
  refine ax_putR (v := (some (hM h12))) fw_1025 rfl rfl dM_init_59 e_h14 ?_
  refine ax_aload_n (i := 0) (some o) dM_init_62 rfl rfl ?_
  refine ax_bipush (40 : Int32) dM_init_63 k8_40 ?_
  replace hf := bd1_s hf
  obtain ⟨h15, e_h15, hf⟩ := hf
  refine ax_newa (d := 1) (Or.inl rfl) rfl w_ac1 dM_init_65 e_h15 ?_
  replace hf := bd1_s hf
  obtain ⟨h16, e_h16, hf⟩ := hf
  refine ax_putR (v := (some (hM h14))) fw_1026 rfl rfl dM_init_67 e_h16 ?_
  refine ax_aload_n (i := 0) (some o) dM_init_70 rfl rfl ?_
  refine ax_bipush (12 : Int32) dM_init_71 k8_12 ?_
  replace hf := bd1_s hf
  obtain ⟨h17, e_h17, hf⟩ := hf
  refine ax_newa (d := 1) (Or.inl rfl) rfl w_ac1 dM_init_73 e_h17 ?_
  replace hf := bd1_s hf
  obtain ⟨h18, e_h18, hf⟩ := hf
  refine ax_putR (v := (some (hM h16))) fw_1027 rfl rfl dM_init_75 e_h18 ?_
  refine ax_aload_n (i := 0) (some o) dM_init_78 rfl rfl ?_
  refine ax_iconst (5 : Int32) dM_init_79 k32_5 ?_
  replace hf := bd1_s hf
  obtain ⟨h19, e_h19, hf⟩ := hf
  refine ax_newa (d := 1) (Or.inl rfl) rfl w_ac1 dM_init_80 e_h19 ?_
  replace hf := bd1_s hf
  obtain ⟨h20, e_h20, hf⟩ := hf
  refine ax_putR (v := (some (hM h18))) fw_1029 rfl rfl dM_init_82 e_h20 ?_
  refine ax_aload_n (i := 0) (some o) dM_init_85 rfl rfl ?_
  refine ax_bipush (30 : Int32) dM_init_86 k8_30 ?_
  replace hf := bd1_s hf
  obtain ⟨h21, e_h21, hf⟩ := hf
  refine ax_newa (d := 1) (Or.inl rfl) rfl w_ac1 dM_init_88 e_h21 ?_
  replace hf := bd1_s hf
  obtain ⟨h22, e_h22, hf⟩ := hf
  refine ax_putR (v := (some (hM h20))) fw_1032 rfl rfl dM_init_90 e_h22 ?_
  refine ax_aload_n (i := 0) (some o) dM_init_93 rfl rfl ?_
  refine ax_bipush (30 : Int32) dM_init_94 k8_30 ?_
  replace hf := bd1_s hf
  obtain ⟨h23, e_h23, hf⟩ := hf
  refine ax_newa (d := 1) (Or.inl rfl) rfl w_ac1 dM_init_96 e_h23 ?_
  replace hf := bd1_s hf
  obtain ⟨h24, e_h24, hf⟩ := hf
  refine ax_putR (v := (some (hM h22))) fw_1033 rfl rfl dM_init_98 e_h24 ?_
  refine ax_aload_n (i := 0) (some o) dM_init_101 rfl rfl ?_
  refine ax_bipush (81 : Int32) dM_init_102 k8_81 ?_
  replace hf := bd1_s hf
  obtain ⟨h25, e_h25, hf⟩ := hf
  refine ax_newa (d := 1) (Or.inl rfl) rfl w_ac1 dM_init_104 e_h25 ?_
  replace hf := bd1_s hf
  obtain ⟨h26, e_h26, hf⟩ := hf
  refine ax_putR (v := (some (hM h24))) fw_1035 rfl rfl dM_init_106 e_h26 ?_
  refine ax_aload_n (i := 0) (some o) dM_init_109 rfl rfl ?_
  refine ax_bipush (81 : Int32) dM_init_110 k8_81 ?_
  replace hf := bd1_s hf
  obtain ⟨h27, e_h27, hf⟩ := hf
  refine ax_newa (d := 1) (Or.inl rfl) rfl w_ac1 dM_init_112 e_h27 ?_
  replace hf := bd1_s hf
  obtain ⟨h28, e_h28, hf⟩ := hf
  refine ax_putR (v := (some (hM h26))) fw_1036 rfl rfl dM_init_114 e_h28 ?_
  refine ax_aload_n (i := 0) (some o) dM_init_117 rfl rfl ?_
  refine ax_bipush (81 : Int32) dM_init_118 k8_81 ?_
  replace hf := bd1_s hf
  obtain ⟨h29, e_h29, hf⟩ := hf
  refine ax_newa (d := 2) (Or.inr (Or.inl rfl)) rfl w_ac2 dM_init_120 e_h29 ?_
  replace hf := bd1_s hf
  obtain ⟨h30, e_h30, hf⟩ := hf
  refine ax_putR (v := (some (hM h28))) fw_1037 rfl rfl dM_init_122 e_h30 ?_
  refine ax_aload_n (i := 0) (some o) dM_init_125 rfl rfl ?_
  refine ax_bipush (81 : Int32) dM_init_126 k8_81 ?_
  replace hf := bd1_s hf
  obtain ⟨h31, e_h31, hf⟩ := hf
  refine ax_newa (d := 4) (Or.inr (Or.inr (Or.inr rfl))) rfl w_ac4 dM_init_128 e_h31 ?_
  replace hf := bd1_s hf
  obtain ⟨h32, e_h32, hf⟩ := hf
  refine ax_putR (v := (some (hM h30))) fw_1038 rfl rfl dM_init_130 e_h32 ?_
  refine ax_aload_n (i := 0) (some o) dM_init_133 rfl rfl ?_
  refine ax_bipush (81 : Int32) dM_init_134 k8_81 ?_
  replace hf := bd1_s hf
  obtain ⟨h33, e_h33, hf⟩ := hf
  refine ax_newa (d := 4) (Or.inr (Or.inr (Or.inr rfl))) rfl w_ac4 dM_init_136 e_h33 ?_
  replace hf := bd1_s hf
  obtain ⟨h34, e_h34, hf⟩ := hf
  refine ax_putR (v := (some (hM h32))) fw_1039 rfl rfl dM_init_138 e_h34 ?_
  refine ax_aload_n (i := 0) (some o) dM_init_141 rfl rfl ?_
  refine ax_bipush (81 : Int32) dM_init_142 k8_81 ?_
  replace hf := bd1_s hf
  obtain ⟨h35, e_h35, hf⟩ := hf
  refine ax_newa (d := 2) (Or.inr (Or.inl rfl)) rfl w_ac2 dM_init_144 e_h35 ?_
  replace hf := bd1_s hf
  obtain ⟨h36, e_h36, hf⟩ := hf
  refine ax_putR (v := (some (hM h34))) fw_1040 rfl rfl dM_init_146 e_h36 ?_
  refine ax_aload_n (i := 0) (some o) dM_init_149 rfl rfl ?_
  refine ax_bipush (81 : Int32) dM_init_150 k8_81 ?_
  replace hf := bd1_s hf
  obtain ⟨h37, e_h37, hf⟩ := hf
  refine ax_newa (d := 4) (Or.inr (Or.inr (Or.inr rfl))) rfl w_ac4 dM_init_152 e_h37 ?_
  replace hf := bd1_s hf
  obtain ⟨h38, e_h38, hf⟩ := hf
  refine ax_putR (v := (some (hM h36))) fw_1041 rfl rfl dM_init_154 e_h38 ?_
  refine ax_aload_n (i := 0) (some o) dM_init_157 rfl rfl ?_
  refine ax_bipush (81 : Int32) dM_init_158 k8_81 ?_
  replace hf := bd1_s hf
  obtain ⟨h39, e_h39, hf⟩ := hf
  refine ax_newa (d := 4) (Or.inr (Or.inr (Or.inr rfl))) rfl w_ac4 dM_init_160 e_h39 ?_
  replace hf := bd1_s hf
  obtain ⟨h40, e_h40, hf⟩ := hf
  refine ax_putR (v := (some (hM h38))) fw_1042 rfl rfl dM_init_162 e_h40 ?_
  refine ax_aload_n (i := 0) (some o) dM_init_165 rfl rfl ?_
  refine ax_bipush (40 : Int32) dM_init_166 k8_40 ?_
  replace hf := bd1_s hf
  obtain ⟨h41, e_h41, hf⟩ := hf
  refine ax_newa (d := 1) (Or.inl rfl) rfl w_ac1 dM_init_168 e_h41 ?_
  replace hf := bd1_s hf
  obtain ⟨h42, e_h42, hf⟩ := hf
  refine ax_putR (v := (some (hM h40))) fw_1044 rfl rfl dM_init_170 e_h42 ?_
  refine ax_aload_n (i := 0) (some o) dM_init_173 rfl rfl ?_
  refine ax_bipush (40 : Int32) dM_init_174 k8_40 ?_
  replace hf := bd1_s hf
  obtain ⟨h43, e_h43, hf⟩ := hf
  refine ax_newa (d := 4) (Or.inr (Or.inr (Or.inr rfl))) rfl w_ac4 dM_init_176 e_h43 ?_
  replace hf := bd1_s hf
  obtain ⟨h44, e_h44, hf⟩ := hf
  refine ax_putR (v := (some (hM h42))) fw_1045 rfl rfl dM_init_178 e_h44 ?_
  refine ax_aload_n (i := 0) (some o) dM_init_181 rfl rfl ?_
  refine ax_sipush (4001 : Int32) dM_init_182 k16_4001 ?_
  replace hf := bd1_s hf
  obtain ⟨h45, e_h45, hf⟩ := hf
  refine ax_newa (d := 1) (Or.inl rfl) rfl w_ac1 dM_init_185 e_h45 ?_
  replace hf := bd1_s hf
  obtain ⟨h46, e_h46, hf⟩ := hf
  refine ax_putR (v := (some (hM h44))) fw_1050 rfl rfl dM_init_187 e_h46 ?_
  refine ax_aload_n (i := 0) (some o) dM_init_190 rfl rfl ?_
  refine ax_sipush (4001 : Int32) dM_init_191 k16_4001 ?_
  replace hf := bd1_s hf
  obtain ⟨h47, e_h47, hf⟩ := hf
  refine ax_newa (d := 1) (Or.inl rfl) rfl w_ac1 dM_init_194 e_h47 ?_
  replace hf := bd1_s hf
  obtain ⟨h48, e_h48, hf⟩ := hf
  refine ax_putR (v := (some (hM h46))) fw_1052 rfl rfl dM_init_196 e_h48 ?_
  refine ax_aload_n (i := 0) (some o) dM_init_199 rfl rfl ?_
  refine ax_sipush (4001 : Int32) dM_init_200 k16_4001 ?_
  replace hf := bd1_s hf
  obtain ⟨h49, e_h49, hf⟩ := hf
  refine ax_newa (d := 1) (Or.inl rfl) rfl w_ac1 dM_init_203 e_h49 ?_
  replace hf := bd1_s hf
  obtain ⟨h50, e_h50, hf⟩ := hf
  refine ax_putR (v := (some (hM h48))) fw_1053 rfl rfl dM_init_205 e_h50 ?_
  refine ax_aload_n (i := 0) (some o) dM_init_208 rfl rfl ?_
  refine ax_sipush (4001 : Int32) dM_init_209 k16_4001 ?_
  replace hf := bd1_s hf
  obtain ⟨h51, e_h51, hf⟩ := hf
  refine ax_newa (d := 1) (Or.inl rfl) rfl w_ac1 dM_init_212 e_h51 ?_
  replace hf := bd1_s hf
  obtain ⟨h52, e_h52, hf⟩ := hf
  refine ax_putR (v := (some (hM h50))) fw_1054 rfl rfl dM_init_214 e_h52 ?_
  refine ax_aload_n (i := 0) (some o) dM_init_217 rfl rfl ?_
  refine ax_sipush (16384 : Int32) dM_init_218 k16_16384 ?_
  replace hf := bd1_s hf
  obtain ⟨h53, e_h53, hf⟩ := hf
  refine ax_newa (d := 1) (Or.inl rfl) rfl w_ac1 dM_init_221 e_h53 ?_
  replace hf := bd1_s hf
  obtain ⟨h54, e_h54, hf⟩ := hf
  refine ax_putR (v := (some (hM h52))) fw_1055 rfl rfl dM_init_223 e_h54 ?_
  refine ax_aload_n (i := 0) (some o) dM_init_226 rfl rfl ?_
  refine ax_bipush (8 : Int32) dM_init_227 k8_8 ?_
  replace hf := bd1_s hf
  obtain ⟨h55, e_h55, hf⟩ := hf
  refine ax_newa (d := 1) (Or.inl rfl) rfl w_ac1 dM_init_229 e_h55 ?_
  replace hf := bd1_s hf
  obtain ⟨h56, e_h56, hf⟩ := hf
  refine ax_putR (v := (some (hM h54))) fw_1056 rfl rfl dM_init_231 e_h56 ?_
  refine ax_aload_n (i := 0) (some o) dM_init_234 rfl rfl ?_
  refine ax_bipush (8 : Int32) dM_init_235 k8_8 ?_
  replace hf := bd1_s hf
  obtain ⟨h57, e_h57, hf⟩ := hf
  refine ax_newa (d := 1) (Or.inl rfl) rfl w_ac1 dM_init_237 e_h57 ?_
  replace hf := bd1_s hf
  obtain ⟨h58, e_h58, hf⟩ := hf
  refine ax_putR (v := (some (hM h56))) fw_1057 rfl rfl dM_init_239 e_h58 ?_
  refine ax_aload_n (i := 0) (some o) dM_init_242 rfl rfl ?_
  refine ax_sipush (625 : Int32) dM_init_243 k16_625 ?_
  replace hf := bd1_s hf
  obtain ⟨h59, e_h59, hf⟩ := hf
  refine ax_newa (d := 2) (Or.inr (Or.inl rfl)) rfl w_ac2 dM_init_246 e_h59 ?_
  replace hf := bd1_s hf
  obtain ⟨h60, e_h60, hf⟩ := hf
  refine ax_putR (v := (some (hM h58))) fw_1062 rfl rfl dM_init_248 e_h60 ?_
  refine ax_aload_n (i := 0) (some o) dM_init_251 rfl rfl ?_
  refine ax_bipush (12 : Int32) dM_init_252 k8_12 ?_
  replace hf := bd1_s hf
  obtain ⟨h61, e_h61, hf⟩ := hf
  refine ax_newa (d := 1) (Or.inl rfl) rfl w_ac1 dM_init_254 e_h61 ?_
  replace hf := bd1_s hf
  obtain ⟨h62, e_h62, hf⟩ := hf
  refine ax_putR (v := (some (hM h60))) fw_1065 rfl rfl dM_init_256 e_h62 ?_
  refine ax_aload_n (i := 0) (some o) dM_init_259 rfl rfl ?_
  refine ax_iconst (5 : Int32) dM_init_260 k32_5 ?_
  replace hf := bd1_s hf
  obtain ⟨h63, e_h63, hf⟩ := hf
  refine ax_newa (d := 1) (Or.inl rfl) rfl w_ac1 dM_init_261 e_h63 ?_
  replace hf := bd1_s hf
  obtain ⟨h64, e_h64, hf⟩ := hf
  refine ax_putR (v := (some (hM h62))) fw_1066 rfl rfl dM_init_263 e_h64 ?_
  refine ax_aload_n (i := 0) (some o) dM_init_266 rfl rfl ?_
  refine ax_iconst (5 : Int32) dM_init_267 k32_5 ?_
  replace hf := bd1_s hf
  obtain ⟨h65, e_h65, hf⟩ := hf
  refine ax_newa (d := 1) (Or.inl rfl) rfl w_ac1 dM_init_268 e_h65 ?_
  replace hf := bd1_s hf
  obtain ⟨h66, e_h66, hf⟩ := hf
  refine ax_putR (v := (some (hM h64))) fw_1067 rfl rfl dM_init_270 e_h66 ?_
  refine ax_aload_n (i := 0) (some o) dM_init_273 rfl rfl ?_
  refine ax_sipush (4096 : Int32) dM_init_274 k16_4096 ?_
  replace hf := bd1_s hf
  obtain ⟨h67, e_h67, hf⟩ := hf
  refine ax_newa (d := 2) (Or.inr (Or.inl rfl)) rfl w_ac2 dM_init_277 e_h67 ?_
  replace hf := bd1_s hf
  obtain ⟨h68, e_h68, hf⟩ := hf
  refine ax_putR (v := (some (hM h66))) fw_1068 rfl rfl dM_init_279 e_h68 ?_
  refine ax_aload_n (i := 0) (some o) dM_init_282 rfl rfl ?_
  refine ax_sipush (4096 : Int32) dM_init_283 k16_4096 ?_
  replace hf := bd1_s hf
  obtain ⟨h69, e_h69, hf⟩ := hf
  refine ax_newa (d := 2) (Or.inr (Or.inl rfl)) rfl w_ac2 dM_init_286 e_h69 ?_
  replace hf := bd1_s hf
  obtain ⟨h70, e_h70, hf⟩ := hf
  refine ax_putR (v := (some (hM h68))) fw_1069 rfl rfl dM_init_288 e_h70 ?_
  cases hf
  exact Hr _ _ dM_init_291
theorem c_M_init {l : Launch} {E : EN} {h0 : AH} {o : Nat} {hF : AH} (hf : f_M_init h0 o = some hF) : AM l E 1 mi_M_init [va_rf (some o)] h0 none hF :=
  am_of2 [(va_rf (some o), false)] 0 ⟨cat_rf _, trivial⟩ rfl rfl (v_M_init (Nat.le_refl _) (Nat.le_refl _) (fun pc L hd => ax_vret rfl hd rfl) hf)
theorem w_M_letters_L8 {l : Launch} {E : EN} {R : Room} {B : (Nat × Nat) × (Nat × Nat)} {Qf : QF} {h0 : AH} {r : Int32} {hF : AH} (hR1 : 1 ≤ R.frames) (hR2 : 64 ≤ R.locals) (Hr : ∀ (pc : Nat) (L : List (Option Value)), decode mi_M_letters.2.1 pc = .ok (.ireturn, 1) → AW l E mi_M_letters R B Qf pc L [.int r] hF) {y0 : Nat} {y1 : Int64} {k : Int32 → Option (Int32 × AH)} (hk : ∀ (z3 : Int32), k z3 = some (r, hF) → AW l E mi_M_letters R B Qf 85 [some (va_rf (some y0)), some (.long y1), none, some (.int z3), none, none, none] [] h0) : ∀ (n : Nat) (z3 : Int32) (z4 : Int32) (z5 : Int32), f_M_letters_L8 h0 y0 y1 k n z3 z4 z5 = some (r, hF) → AW l E mi_M_letters R B Qf 8 [some (va_rf (some y0)), some (.long y1), none, some (.int z3), some (.int z4), some (.int z5), none] [] h0 := by
  intro n
  induction n with
  | zero => intro z3 z4 z5 hf; cases hf
  | succ n ih =>
    intro z3 z4 z5 hf
    rw [f_M_letters_L8] at hf
    refine ax_iload (i := 5) dM_letters_8 rfl ?_
    refine ax_bipush (8 : Int32) dM_letters_10 k8_8 ?_
    replace hf := ite_c hf
    rcases hf with ⟨hc, hf⟩ | ⟨hc, hf⟩
    · refine ax_icmp_geF 85 dM_letters_12 (by decide) hc ?_
      refine ax_lload_n (i := 1) dM_letters_15 rfl rfl ?_
      refine ax_bipush (8 : Int32) dM_letters_16 k8_8 ?_
      refine ax_iload (i := 5) dM_letters_18 rfl ?_
      refine ax_imul dM_letters_20 ?_
      refine ax_lshr dM_letters_21 ?_
      refine ax_ldc2 w_1194 dM_letters_22 ?_
      refine ax_land dM_letters_25 ?_
      refine ax_l2i dM_letters_26 ?_
      replace hf := bd1_s hf
      obtain ⟨x1, e_x1, hf⟩ := hf
      refine ax_nmI (Option.some.inj e_x1) ?_
      refine ax_istore (i := 6) [some (va_rf (some y0)), some (.long y1), none, some (.int z3), some (.int z4), some (.int z5), some (.int x1)] dM_letters_27 (Nat.le_of_ble_eq_true rfl) (Or.inr (c1i rfl)) rfl ?_
      refine ax_iload (i := 6) dM_letters_29 rfl ?_
      refine ax_bipush (126 : Int32) dM_letters_31 k8_126 ?_
      replace hf := ite_c hf
      rcases hf with ⟨hc, hf⟩ | ⟨hc, hf⟩
      · refine ax_icmp_gtT 46 dM_letters_33 (by decide) hc ?_
        refine ax_bipush (-102 : Int32) dM_letters_46 k8_m102 ?_
        cases hf
        exact Hr _ _ dM_letters_48
      · refine ax_icmp_gtF 46 dM_letters_33 (by decide) hc ?_
        refine ax_iload (i := 4) dM_letters_36 rfl ?_
        replace hf := ite_c hf
        rcases hf with ⟨hc, hf⟩ | ⟨hc, hf⟩
        · refine ax_if_eqT 49 dM_letters_38 (by decide) hc ?_
          refine ax_iload (i := 4) dM_letters_49 rfl ?_
          replace hf := bd1_s hf
          obtain ⟨x2, hT, hf⟩ := hf
          have K : AW l E mi_M_letters R B Qf 64 [some (va_rf (some y0)), some (.long y1), none, some (.int z3), none, some (.int z5), some (.int x1)] [.int x2] h0 := by
            clear hT
            refine ax_istore (i := 4) [some (va_rf (some y0)), some (.long y1), none, some (.int z3), some (.int x2), some (.int z5), some (.int x1)] dM_letters_64 (Nat.le_of_ble_eq_true rfl) (Or.inr (c1i rfl)) rfl ?_
            refine ax_iload_n (i := 3) dM_letters_66 rfl rfl ?_
            refine ax_iload (i := 6) dM_letters_67 rfl ?_
            replace hf := bd1_s hf
            obtain ⟨x3, hT, hf⟩ := hf
            have K : AW l E mi_M_letters R B Qf 77 [some (va_rf (some y0)), some (.long y1), none, none, some (.int x2), some (.int z5), none] [.int x3, .int z3] h0 := by
              clear hT
              refine ax_iadd dM_letters_77 ?_
              replace hf := bd1_s hf
              obtain ⟨x4, e_x4, hf⟩ := hf
              refine ax_nmI (Option.some.inj e_x4) ?_
              refine ax_istore_n (i := 3) [some (va_rf (some y0)), some (.long y1), none, some (.int x4), some (.int x2), some (.int z5), none] dM_letters_78 rfl (Nat.le_of_ble_eq_true rfl) (Or.inr (c1n rfl)) rfl ?_
              refine ax_iinc (i := 5) (z5 + (1 : Int32)) [some (va_rf (some y0)), some (.long y1), none, some (.int x4), some (.int x2), some (.int (z5 + (1 : Int32))), none] dM_letters_79 rfl (iic k32_1) (Or.inr (c1i rfl)) rfl ?_
              refine ax_goto 8 dM_letters_82 (by decide) ?_
              exact ih x4 x2 (z5 + (1 : Int32)) hf
            replace hf := hT
            clear hT
            replace hf := ite_c hf
            rcases hf with ⟨hc, hf⟩ | ⟨hc, hf⟩
            · refine ax_if_neF 76 dM_letters_69 (by decide) hc ?_
              refine ax_iconst (0 : Int32) dM_letters_72 k32_0 ?_
              refine ax_goto 77 dM_letters_73 (by decide) ?_
              refine ax_mask [true, true, true, false, true, true, false] rfl [some (va_rf (some y0)), some (.long y1), none, none, some (.int x2), some (.int z5), none] rfl ?_
              cases hf
              exact K
            · refine ax_if_neT 76 dM_letters_69 (by decide) hc ?_
              refine ax_iconst (1 : Int32) dM_letters_76 k32_1 ?_
              refine ax_mask [true, true, true, false, true, true, false] rfl [some (va_rf (some y0)), some (.long y1), none, none, some (.int x2), some (.int z5), none] rfl ?_
              cases hf
              exact K
          replace hf := hT
          clear hT
          replace hf := ite_c hf
          rcases hf with ⟨hc, hf⟩ | ⟨hc, hf⟩
          · refine ax_if_neF 59 dM_letters_51 (by decide) hc ?_
            refine ax_iload (i := 6) dM_letters_54 rfl ?_
            replace hf := ite_c hf
            rcases hf with ⟨hc, hf⟩ | ⟨hc, hf⟩
            · refine ax_if_neF 63 dM_letters_56 (by decide) hc ?_
              refine ax_iconst (1 : Int32) dM_letters_59 k32_1 ?_
              refine ax_goto 64 dM_letters_60 (by decide) ?_
              refine ax_mask [true, true, true, true, false, true, true] rfl [some (va_rf (some y0)), some (.long y1), none, some (.int z3), none, some (.int z5), some (.int x1)] rfl ?_
              cases hf
              exact K
            · refine ax_if_neT 63 dM_letters_56 (by decide) hc ?_
              refine ax_iconst (0 : Int32) dM_letters_63 k32_0 ?_
              refine ax_mask [true, true, true, true, false, true, true] rfl [some (va_rf (some y0)), some (.long y1), none, some (.int z3), none, some (.int z5), some (.int x1)] rfl ?_
              cases hf
              exact K
          · refine ax_if_neT 59 dM_letters_51 (by decide) hc ?_
            refine ax_iconst (1 : Int32) dM_letters_59 k32_1 ?_
            refine ax_goto 64 dM_letters_60 (by decide) ?_
            refine ax_mask [true, true, true, true, false, true, true] rfl [some (va_rf (some y0)), some (.long y1), none, some (.int z3), none, some (.int z5), some (.int x1)] rfl ?_
            cases hf
            exact K
        · refine ax_if_eqF 49 dM_letters_38 (by decide) hc ?_
          refine ax_iload (i := 6) dM_letters_41 rfl ?_
          replace hf := ite_c hf
          rcases hf with ⟨hc, hf⟩ | ⟨hc, hf⟩
          · refine ax_if_eqT 49 dM_letters_43 (by decide) hc ?_
            refine ax_iload (i := 4) dM_letters_49 rfl ?_
            replace hf := bd1_s hf
            obtain ⟨x5, hT, hf⟩ := hf
            have K : AW l E mi_M_letters R B Qf 64 [some (va_rf (some y0)), some (.long y1), none, some (.int z3), none, some (.int z5), some (.int x1)] [.int x5] h0 := by
              clear hT
              refine ax_istore (i := 4) [some (va_rf (some y0)), some (.long y1), none, some (.int z3), some (.int x5), some (.int z5), some (.int x1)] dM_letters_64 (Nat.le_of_ble_eq_true rfl) (Or.inr (c1i rfl)) rfl ?_
              refine ax_iload_n (i := 3) dM_letters_66 rfl rfl ?_
              refine ax_iload (i := 6) dM_letters_67 rfl ?_
              replace hf := bd1_s hf
              obtain ⟨x6, hT, hf⟩ := hf
              have K : AW l E mi_M_letters R B Qf 77 [some (va_rf (some y0)), some (.long y1), none, none, some (.int x5), some (.int z5), none] [.int x6, .int z3] h0 := by
                clear hT
                refine ax_iadd dM_letters_77 ?_
                replace hf := bd1_s hf
                obtain ⟨x7, e_x7, hf⟩ := hf
                refine ax_nmI (Option.some.inj e_x7) ?_
                refine ax_istore_n (i := 3) [some (va_rf (some y0)), some (.long y1), none, some (.int x7), some (.int x5), some (.int z5), none] dM_letters_78 rfl (Nat.le_of_ble_eq_true rfl) (Or.inr (c1n rfl)) rfl ?_
                refine ax_iinc (i := 5) (z5 + (1 : Int32)) [some (va_rf (some y0)), some (.long y1), none, some (.int x7), some (.int x5), some (.int (z5 + (1 : Int32))), none] dM_letters_79 rfl (iic k32_1) (Or.inr (c1i rfl)) rfl ?_
                refine ax_goto 8 dM_letters_82 (by decide) ?_
                exact ih x7 x5 (z5 + (1 : Int32)) hf
              replace hf := hT
              clear hT
              replace hf := ite_c hf
              rcases hf with ⟨hc, hf⟩ | ⟨hc, hf⟩
              · refine ax_if_neF 76 dM_letters_69 (by decide) hc ?_
                refine ax_iconst (0 : Int32) dM_letters_72 k32_0 ?_
                refine ax_goto 77 dM_letters_73 (by decide) ?_
                refine ax_mask [true, true, true, false, true, true, false] rfl [some (va_rf (some y0)), some (.long y1), none, none, some (.int x5), some (.int z5), none] rfl ?_
                cases hf
                exact K
              · refine ax_if_neT 76 dM_letters_69 (by decide) hc ?_
                refine ax_iconst (1 : Int32) dM_letters_76 k32_1 ?_
                refine ax_mask [true, true, true, false, true, true, false] rfl [some (va_rf (some y0)), some (.long y1), none, none, some (.int x5), some (.int z5), none] rfl ?_
                cases hf
                exact K
            replace hf := hT
            clear hT
            replace hf := ite_c hf
            rcases hf with ⟨hc, hf⟩ | ⟨hc, hf⟩
            · refine ax_if_neF 59 dM_letters_51 (by decide) hc ?_
              refine ax_iload (i := 6) dM_letters_54 rfl ?_
              replace hf := ite_c hf
              rcases hf with ⟨hc, hf⟩ | ⟨hc, hf⟩
              · refine ax_if_neF 63 dM_letters_56 (by decide) hc ?_
                refine ax_iconst (1 : Int32) dM_letters_59 k32_1 ?_
                refine ax_goto 64 dM_letters_60 (by decide) ?_
                refine ax_mask [true, true, true, true, false, true, true] rfl [some (va_rf (some y0)), some (.long y1), none, some (.int z3), none, some (.int z5), some (.int x1)] rfl ?_
                cases hf
                exact K
              · refine ax_if_neT 63 dM_letters_56 (by decide) hc ?_
                refine ax_iconst (0 : Int32) dM_letters_63 k32_0 ?_
                refine ax_mask [true, true, true, true, false, true, true] rfl [some (va_rf (some y0)), some (.long y1), none, some (.int z3), none, some (.int z5), some (.int x1)] rfl ?_
                cases hf
                exact K
            · refine ax_if_neT 59 dM_letters_51 (by decide) hc ?_
              refine ax_iconst (1 : Int32) dM_letters_59 k32_1 ?_
              refine ax_goto 64 dM_letters_60 (by decide) ?_
              refine ax_mask [true, true, true, true, false, true, true] rfl [some (va_rf (some y0)), some (.long y1), none, some (.int z3), none, some (.int z5), some (.int x1)] rfl ?_
              cases hf
              exact K
          · refine ax_if_eqF 49 dM_letters_43 (by decide) hc ?_
            refine ax_bipush (-102 : Int32) dM_letters_46 k8_m102 ?_
            cases hf
            exact Hr _ _ dM_letters_48
    · refine ax_icmp_geT 85 dM_letters_12 (by decide) hc ?_
      refine ax_mask [true, true, true, true, false, false, true] rfl [some (va_rf (some y0)), some (.long y1), none, some (.int z3), none, none, none] rfl ?_
      exact hk z3 hf
theorem w_M_letters_L102 {l : Launch} {E : EN} {R : Room} {B : (Nat × Nat) × (Nat × Nat)} {Qf : QF} {ρ : Type} {res : ρ} (hR1 : 1 ≤ R.frames) (hR2 : 64 ≤ R.locals) {y0 : Nat} {y1 : Int64} {y3 : Int32} {k : AH → Option (ρ)} (hk : ∀ (h : AH), k h = some res → AW l E mi_M_letters R B Qf 135 [some (va_rf (some y0)), none, none, some (.int y3), none, none, none] [] h) : ∀ (n : Nat) (z5 : Int32) (h : AH), f_M_letters_L102 y0 y1 y3 k n z5 h = some res → AW l E mi_M_letters R B Qf 102 [some (va_rf (some y0)), some (.long y1), none, some (.int y3), none, some (.int z5), none] [] h := by
  intro n
  induction n with
  | zero => intro z5 h hf; cases hf
  | succ n ih =>
    intro z5 h hf
    rw [f_M_letters_L102] at hf
    refine ax_iload (i := 5) dM_letters_102 rfl ?_
    refine ax_iload_n (i := 3) dM_letters_104 rfl rfl ?_
    replace hf := ite_c hf
    rcases hf with ⟨hc, hf⟩ | ⟨hc, hf⟩
    · refine ax_icmp_geF 135 dM_letters_105 (by decide) hc ?_
      refine ax_aload_n (i := 0) (some y0) dM_letters_108 rfl rfl ?_
      replace hf := bd1_s hf
      obtain ⟨r10, e_r10, hf⟩ := hf
      refine ax_getR fl_1014 rfl dM_letters_109 e_r10 ?_
      refine ax_aload_n (i := 0) (some y0) dM_letters_112 rfl rfl ?_
      replace hf := bd1_s hf
      obtain ⟨x11, e_x11, hf⟩ := hf
      refine ax_getI fl_1013 rfl dM_letters_113 e_x11 ?_
      refine ax_iload (i := 5) dM_letters_116 rfl ?_
      refine ax_iadd dM_letters_118 ?_
      refine ax_lload_n (i := 1) dM_letters_119 rfl rfl ?_
      refine ax_bipush (8 : Int32) dM_letters_120 k8_8 ?_
      refine ax_iload (i := 5) dM_letters_122 rfl ?_
      refine ax_imul dM_letters_124 ?_
      refine ax_lshr dM_letters_125 ?_
      refine ax_l2i dM_letters_126 ?_
      refine ax_i2b dM_letters_127 ?_
      replace hf := bd1_s hf
      obtain ⟨a12, e_d, hf⟩ := hf
      subst e_d
      replace hf := bd1_s hf
      obtain ⟨h13, e_h13, hf⟩ := hf
      refine ax_bast dM_letters_128 e_h13 ?_
      refine ax_iinc (i := 5) (z5 + (1 : Int32)) [some (va_rf (some y0)), some (.long y1), none, some (.int y3), none, some (.int (z5 + (1 : Int32))), none] dM_letters_129 rfl (iic k32_1) (Or.inr (c1n rfl)) rfl ?_
      refine ax_goto 102 dM_letters_132 (by decide) ?_
      exact ih (z5 + (1 : Int32)) h13 hf
    · refine ax_icmp_geT 135 dM_letters_105 (by decide) hc ?_
      refine ax_mask [true, false, true, true, true, false, true] rfl [some (va_rf (some y0)), none, none, some (.int y3), none, none, none] rfl ?_
      exact hk h hf
theorem v_M_letters {l : Launch} {E : EN} {R : Room} {B : (Nat × Nat) × (Nat × Nat)} {Qf : QF} {h0 : AH} {o : Nat} {p1 : Int64} {r : Int32} {hF : AH} (hR1 : 1 ≤ R.frames) (hR2 : 64 ≤ R.locals) (Hr : ∀ (pc : Nat) (L : List (Option Value)), decode mi_M_letters.2.1 pc = .ok (.ireturn, 1) → AW l E mi_M_letters R B Qf pc L [.int r] hF) (hf : f_M_letters h0 o p1 = some (r, hF)) : AW l E mi_M_letters R B Qf 0 [some (va_rf (some o)), some (.long p1), none, none, none, none, none] [] h0 := by
  unfold f_M_letters at hf
  refine ax_iconst (0 : Int32) dM_letters_0 k32_0 ?_
  refine ax_istore_n (i := 3) [some (va_rf (some o)), some (.long p1), none, some (.int (0 : Int32)), none, none, none] dM_letters_1 rfl (Nat.le_of_ble_eq_true rfl) (Or.inr (c1n rfl)) rfl ?_
  refine ax_iconst (0 : Int32) dM_letters_2 k32_0 ?_
  refine ax_istore (i := 4) [some (va_rf (some o)), some (.long p1), none, some (.int (0 : Int32)), some (.int (0 : Int32)), none, none] dM_letters_3 (Nat.le_of_ble_eq_true rfl) (Or.inr (c1i rfl)) rfl ?_
  refine ax_iconst (0 : Int32) dM_letters_5 k32_0 ?_
  refine ax_istore (i := 5) [some (va_rf (some o)), some (.long p1), none, some (.int (0 : Int32)), some (.int (0 : Int32)), some (.int (0 : Int32)), none] dM_letters_6 (Nat.le_of_ble_eq_true rfl) (Or.inr (c1i rfl)) rfl ?_
  refine w_M_letters_L8 hR1 hR2 Hr (fun x8 hf => ?_) FU (0 : Int32) (0 : Int32) (0 : Int32) hf
  refine ax_aload_n (i := 0) (some o) dM_letters_85 rfl rfl ?_
  replace hf := bd1_s hf
  obtain ⟨x9, e_x9, hf⟩ := hf
  refine ax_getI fl_1013 rfl dM_letters_86 e_x9 ?_
  refine ax_iload_n (i := 3) dM_letters_89 rfl rfl ?_
  refine ax_iadd dM_letters_90 ?_
  refine ax_bipush (80 : Int32) dM_letters_91 k8_80 ?_
  replace hf := ite_c hf
  rcases hf with ⟨hc, hf⟩ | ⟨hc, hf⟩
  · refine ax_icmp_leF 99 dM_letters_93 (by decide) hc ?_
    refine ax_bipush (-104 : Int32) dM_letters_96 k8_m104 ?_
    cases hf
    exact Hr _ _ dM_letters_98
  · refine ax_icmp_leT 99 dM_letters_93 (by decide) hc ?_
    refine ax_iconst (0 : Int32) dM_letters_99 k32_0 ?_
    refine ax_istore (i := 5) [some (va_rf (some o)), some (.long p1), none, some (.int x8), none, some (.int (0 : Int32)), none] dM_letters_100 (Nat.le_of_ble_eq_true rfl) (Or.inr (c1n rfl)) rfl ?_
    refine w_M_letters_L102 hR1 hR2 (fun h14 hf => ?_) FU (0 : Int32) h0 hf
    refine ax_aload_n (i := 0) (some o) dM_letters_135 rfl rfl ?_
    refine ax_dup dM_letters_136 rfl ?_
    replace hf := bd1_s hf
    obtain ⟨x15, e_x15, hf⟩ := hf
    refine ax_getI fl_1013 rfl dM_letters_137 e_x15 ?_
    refine ax_iload_n (i := 3) dM_letters_140 rfl rfl ?_
    refine ax_iadd dM_letters_141 ?_
    replace hf := bd1_s hf
    obtain ⟨h16, e_h16, hf⟩ := hf
    refine ax_putI fw_1013 rfl rfl dM_letters_142 e_h16 ?_
    refine ax_aload_n (i := 0) (some o) dM_letters_145 rfl rfl ?_
    replace hf := bd1_s hf
    obtain ⟨x17, e_x17, hf⟩ := hf
    refine ax_getI fl_1013 rfl dM_letters_146 e_x17 ?_
    cases hf
    exact Hr _ _ dM_letters_149
theorem c_M_letters {l : Launch} {E : EN} {h0 : AH} {o : Nat} {p1 : Int64} {r : Int32} {hF : AH} (hf : f_M_letters h0 o p1 = some (r, hF)) : AM l E 1 mi_M_letters [va_rf (some o), .long p1] h0 (some (.int r)) hF :=
  am_of2 [(va_rf (some o), false), (.long p1, true)] 4 ⟨cat_rf _, rfl, trivial⟩ rfl rfl (v_M_letters (Nat.le_refl _) (Nat.le_refl _) (fun pc L hd => ax_iret rfl hd rfl) hf)
theorem v_M_blank {l : Launch} {E : EN} {R : Room} {B : (Nat × Nat) × (Nat × Nat)} {Qf : QF} {h0 : AH} {o : Nat} {r : Int32} {hF : AH} (hR1 : 1 ≤ R.frames) (hR2 : 64 ≤ R.locals) (Hr : ∀ (pc : Nat) (L : List (Option Value)), decode mi_M_blank.2.1 pc = .ok (.ireturn, 1) → AW l E mi_M_blank R B Qf pc L [.int r] hF) (hf : f_M_blank h0 o = some (r, hF)) : AW l E mi_M_blank R B Qf 0 [some (va_rf (some o)), none] [] h0 := by
  unfold f_M_blank at hf
  refine ax_aload_n (i := 0) (some o) dM_blank_0 rfl rfl ?_
  replace hf := bd1_s hf
  obtain ⟨x1, e_x1, hf⟩ := hf
  refine ax_getI fl_1013 rfl dM_blank_1 e_x1 ?_
  refine ax_istore_n (i := 1) [some (va_rf (some o)), some (.int x1)] dM_blank_4 rfl (Nat.le_of_ble_eq_true rfl) (Or.inr (c1r rfl)) rfl ?_
  refine ax_aload_n (i := 0) (some o) dM_blank_5 rfl rfl ?_
  refine ax_iconst (0 : Int32) dM_blank_6 k32_0 ?_
  replace hf := bd1_s hf
  obtain ⟨h2, e_h2, hf⟩ := hf
  refine ax_putI fw_1013 rfl rfl dM_blank_7 e_h2 ?_
  refine ax_iload_n (i := 1) dM_blank_10 rfl rfl ?_
  cases hf
  exact Hr _ _ dM_blank_11
theorem c_M_blank {l : Launch} {E : EN} {h0 : AH} {o : Nat} {r : Int32} {hF : AH} (hf : f_M_blank h0 o = some (r, hF)) : AM l E 1 mi_M_blank [va_rf (some o)] h0 (some (.int r)) hF :=
  am_of2 [(va_rf (some o), false)] 1 ⟨cat_rf _, trivial⟩ rfl rfl (v_M_blank (Nat.le_refl _) (Nat.le_refl _) (fun pc L hd => ax_iret rfl hd rfl) hf)
theorem v_M_fresh {l : Launch} {E : EN} {R : Room} {B : (Nat × Nat) × (Nat × Nat)} {Qf : QF} {h0 : AH} {o : Nat} {hF : AH} (hR1 : 1 ≤ R.frames) (hR2 : 64 ≤ R.locals) (Hr : ∀ (pc : Nat) (L : List (Option Value)), decode mi_M_fresh.2.1 pc = .ok (.return_, 1) → AW l E mi_M_fresh R B Qf pc L [] hF) (hf : f_M_fresh h0 o = some hF) : AW l E mi_M_fresh R B Qf 0 [some (va_rf (some o))] [] h0 := by
  unfold f_M_fresh at hf
  refine ax_aload_n (i := 0) (some o) dM_fresh_0 rfl rfl ?_
  replace hf := bd1_s hf
  obtain ⟨r1, e_r1, hf⟩ := hf
  refine ax_getR fl_1037 rfl dM_fresh_1 e_r1 ?_
  refine ax_aload_n (i := 0) (some o) dM_fresh_4 rfl rfl ?_
  replace hf := bd1_s hf
  obtain ⟨x2, e_x2, hf⟩ := hf
  refine ax_getI fl_1034 rfl dM_fresh_5 e_x2 ?_
  refine ax_iconst (1 : Int32) dM_fresh_8 k32_1 ?_
  replace hf := bd1_s hf
  obtain ⟨a3, e_d, hf⟩ := hf
  subst e_d
  replace hf := bd1_s hf
  obtain ⟨h4, e_h4, hf⟩ := hf
  refine ax_zast dM_fresh_9 e_h4 ?_
  refine ax_aload_n (i := 0) (some o) dM_fresh_10 rfl rfl ?_
  replace hf := bd1_s hf
  obtain ⟨r5, e_r5, hf⟩ := hf
  refine ax_getR fl_1038 rfl dM_fresh_11 e_r5 ?_
  refine ax_aload_n (i := 0) (some o) dM_fresh_14 rfl rfl ?_
  replace hf := bd1_s hf
  obtain ⟨x6, e_x6, hf⟩ := hf
  refine ax_getI fl_1034 rfl dM_fresh_15 e_x6 ?_
  refine ax_lconst (0 : Int64) dM_fresh_18 kl_0 ?_
  replace hf := bd1_s hf
  obtain ⟨a7, e_d, hf⟩ := hf
  subst e_d
  replace hf := bd1_s hf
  obtain ⟨h8, e_h8, hf⟩ := hf
  refine ax_last dM_fresh_19 e_h8 ?_
  refine ax_aload_n (i := 0) (some o) dM_fresh_20 rfl rfl ?_
  replace hf := bd1_s hf
  obtain ⟨r9, e_r9, hf⟩ := hf
  refine ax_getR fl_1039 rfl dM_fresh_21 e_r9 ?_
  refine ax_aload_n (i := 0) (some o) dM_fresh_24 rfl rfl ?_
  replace hf := bd1_s hf
  obtain ⟨x10, e_x10, hf⟩ := hf
  refine ax_getI fl_1034 rfl dM_fresh_25 e_x10 ?_
  refine ax_lconst (0 : Int64) dM_fresh_28 kl_0 ?_
  replace hf := bd1_s hf
  obtain ⟨a11, e_d, hf⟩ := hf
  subst e_d
  replace hf := bd1_s hf
  obtain ⟨h12, e_h12, hf⟩ := hf
  refine ax_last dM_fresh_29 e_h12 ?_
  cases hf
  exact Hr _ _ dM_fresh_30
theorem c_M_fresh {l : Launch} {E : EN} {h0 : AH} {o : Nat} {hF : AH} (hf : f_M_fresh h0 o = some hF) : AM l E 1 mi_M_fresh [va_rf (some o)] h0 none hF :=
  am_of2 [(va_rf (some o), false)] 0 ⟨cat_rf _, trivial⟩ rfl rfl (v_M_fresh (Nat.le_refl _) (Nat.le_refl _) (fun pc L hd => ax_vret rfl hd rfl) hf)
theorem v_M_open {l : Launch} {E : EN} {R : Room} {B : (Nat × Nat) × (Nat × Nat)} {Qf : QF} {h0 : AH} {o : Nat} {p1 : Int32} {hF : AH} (hR1 : 2 ≤ R.frames) (hR2 : 128 ≤ R.locals) (Hr : ∀ (pc : Nat) (L : List (Option Value)), decode mi_M_open.2.1 pc = .ok (.return_, 1) → AW l E mi_M_open R B Qf pc L [] hF) (hf : f_M_open h0 o p1 = some hF) : AW l E mi_M_open R B Qf 0 [some (va_rf (some o)), some (.int p1)] [] h0 := by
  unfold f_M_open at hf
  refine ax_aload_n (i := 0) (some o) dM_open_0 rfl rfl ?_
  refine ax_dup dM_open_1 rfl ?_
  replace hf := bd1_s hf
  obtain ⟨x1, e_x1, hf⟩ := hf
  refine ax_getI fl_1034 rfl dM_open_2 e_x1 ?_
  refine ax_iconst (1 : Int32) dM_open_5 k32_1 ?_
  refine ax_iadd dM_open_6 ?_
  replace hf := bd1_s hf
  obtain ⟨h2, e_h2, hf⟩ := hf
  refine ax_putI fw_1034 rfl rfl dM_open_7 e_h2 ?_
  refine ax_aload_n (i := 0) (some o) dM_open_10 rfl rfl ?_
  replace hf := bd1_s hf
  obtain ⟨r3, e_r3, hf⟩ := hf
  refine ax_getR fl_1035 rfl dM_open_11 e_r3 ?_
  refine ax_aload_n (i := 0) (some o) dM_open_14 rfl rfl ?_
  replace hf := bd1_s hf
  obtain ⟨x4, e_x4, hf⟩ := hf
  refine ax_getI fl_1034 rfl dM_open_15 e_x4 ?_
  refine ax_iload_n (i := 1) dM_open_18 rfl rfl ?_
  replace hf := bd1_s hf
  obtain ⟨a5, e_d, hf⟩ := hf
  subst e_d
  replace hf := bd1_s hf
  obtain ⟨h6, e_h6, hf⟩ := hf
  refine ax_iast dM_open_19 e_h6 ?_
  refine ax_aload_n (i := 0) (some o) dM_open_20 rfl rfl ?_
  replace hf := bd1_s hf
  obtain ⟨r7, e_r7, hf⟩ := hf
  refine ax_getR fl_1036 rfl dM_open_21 e_r7 ?_
  refine ax_aload_n (i := 0) (some o) dM_open_24 rfl rfl ?_
  replace hf := bd1_s hf
  obtain ⟨x8, e_x8, hf⟩ := hf
  refine ax_getI fl_1034 rfl dM_open_25 e_x8 ?_
  refine ax_iconst (0 : Int32) dM_open_28 k32_0 ?_
  replace hf := bd1_s hf
  obtain ⟨a9, e_d, hf⟩ := hf
  subst e_d
  replace hf := bd1_s hf
  obtain ⟨h10, e_h10, hf⟩ := hf
  refine ax_iast dM_open_29 e_h10 ?_
  refine ax_aload_n (i := 0) (some o) dM_open_30 rfl rfl ?_
  replace hf := bd1_s hf
  obtain ⟨r11, e_r11, hf⟩ := hf
  refine ax_getR fl_1040 rfl dM_open_31 e_r11 ?_
  refine ax_aload_n (i := 0) (some o) dM_open_34 rfl rfl ?_
  replace hf := bd1_s hf
  obtain ⟨x12, e_x12, hf⟩ := hf
  refine ax_getI fl_1034 rfl dM_open_35 e_x12 ?_
  refine ax_iconst (0 : Int32) dM_open_38 k32_0 ?_
  replace hf := bd1_s hf
  obtain ⟨a13, e_d, hf⟩ := hf
  subst e_d
  replace hf := bd1_s hf
  obtain ⟨h14, e_h14, hf⟩ := hf
  refine ax_zast dM_open_39 e_h14 ?_
  refine ax_aload_n (i := 0) (some o) dM_open_40 rfl rfl ?_
  replace hf := bd1_s hf
  obtain ⟨r15, e_r15, hf⟩ := hf
  refine ax_getR fl_1041 rfl dM_open_41 e_r15 ?_
  refine ax_aload_n (i := 0) (some o) dM_open_44 rfl rfl ?_
  replace hf := bd1_s hf
  obtain ⟨x16, e_x16, hf⟩ := hf
  refine ax_getI fl_1034 rfl dM_open_45 e_x16 ?_
  refine ax_lconst (0 : Int64) dM_open_48 kl_0 ?_
  replace hf := bd1_s hf
  obtain ⟨a17, e_d, hf⟩ := hf
  subst e_d
  replace hf := bd1_s hf
  obtain ⟨h18, e_h18, hf⟩ := hf
  refine ax_last dM_open_49 e_h18 ?_
  refine ax_aload_n (i := 0) (some o) dM_open_50 rfl rfl ?_
  replace hf := bd1_s hf
  obtain ⟨r19, e_r19, hf⟩ := hf
  refine ax_getR fl_1042 rfl dM_open_51 e_r19 ?_
  refine ax_aload_n (i := 0) (some o) dM_open_54 rfl rfl ?_
  replace hf := bd1_s hf
  obtain ⟨x20, e_x20, hf⟩ := hf
  refine ax_getI fl_1034 rfl dM_open_55 e_x20 ?_
  refine ax_lconst (0 : Int64) dM_open_58 kl_0 ?_
  replace hf := bd1_s hf
  obtain ⟨a21, e_d, hf⟩ := hf
  subst e_d
  replace hf := bd1_s hf
  obtain ⟨h22, e_h22, hf⟩ := hf
  refine ax_last dM_open_59 e_h22 ?_
  refine ax_aload_n (i := 0) (some o) dM_open_60 rfl rfl ?_
  replace hf := bd1_s hf
  obtain ⟨h23, e_h23, hf⟩ := hf
  obtain ⟨k_e_h23, e_h23⟩ := cv_s e_h23
  refine ax_callV (As := []) (rest := []) (c_M_fresh e_h23) ml_1211 cm_M_fresh rfl k_e_h23 (Nat.le_trans (Nat.le_of_ble_eq_true rfl) hR1) (Nat.le_trans (Nat.le_of_ble_eq_true rfl) hR2) rfl rfl (Nat.le_of_ble_eq_true rfl) dM_open_61 ?_
  cases hf
  exact Hr _ _ dM_open_64
theorem c_M_open {l : Launch} {E : EN} {h0 : AH} {o : Nat} {p1 : Int32} {hF : AH} (hf : f_M_open h0 o p1 = some hF) : AM l E 2 mi_M_open [va_rf (some o), .int p1] h0 none hF :=
  am_of2 [(va_rf (some o), false), (.int p1, false)] 0 ⟨cat_rf _, rfl, trivial⟩ rfl rfl (v_M_open (Nat.le_refl _) (Nat.le_refl _) (fun pc L hd => ax_vret rfl hd rfl) hf)
theorem v_M_in {l : Launch} {E : EN} {R : Room} {B : (Nat × Nat) × (Nat × Nat)} {Qf : QF} {h0 : AH} {p1 : Int32} {p2 : Int32} {p3 : Int32} {r : Int32} (hR1 : 1 ≤ R.frames) (hR2 : 64 ≤ R.locals) (Hr : (r = 0 ∨ r = 1) → ∀ (pc : Nat) (L : List (Option Value)), decode mi_M_in.2.1 pc = .ok (.ireturn, 1) → AW l E mi_M_in R B Qf pc L [.int r] h0) (hf : f_M_in h0 p1 p2 p3 = some r) : AW l E mi_M_in R B Qf 0 [some (.int p1), some (.int p2), some (.int p3)] [] h0 := by
  unfold f_M_in at hf
  refine ax_iload_n (i := 0) dM_in_0 rfl rfl ?_
  refine ax_iload_n (i := 1) dM_in_1 rfl rfl ?_
  replace hf := ite_c hf
  rcases hf with ⟨hc, hf⟩ | ⟨hc, hf⟩
  · refine ax_icmp_ltT 14 dM_in_2 (by decide) hc ?_
    refine ax_iconst (0 : Int32) dM_in_14 k32_0 ?_
    cases hf
    exact Hr (Or.inl rfl) _ _ dM_in_15
  · refine ax_icmp_ltF 14 dM_in_2 (by decide) hc ?_
    refine ax_iload_n (i := 0) dM_in_5 rfl rfl ?_
    refine ax_iload_n (i := 2) dM_in_6 rfl rfl ?_
    replace hf := ite_c hf
    rcases hf with ⟨hc, hf⟩ | ⟨hc, hf⟩
    · refine ax_icmp_gtT 14 dM_in_7 (by decide) hc ?_
      refine ax_iconst (0 : Int32) dM_in_14 k32_0 ?_
      cases hf
      exact Hr (Or.inl rfl) _ _ dM_in_15
    · refine ax_icmp_gtF 14 dM_in_7 (by decide) hc ?_
      refine ax_iconst (1 : Int32) dM_in_10 k32_1 ?_
      refine ax_goto 15 dM_in_11 (by decide) ?_
      cases hf
      exact Hr (Or.inr rfl) _ _ dM_in_15
theorem c_M_in {l : Launch} {E : EN} {h0 : AH} {p1 : Int32} {p2 : Int32} {p3 : Int32} {r : Int32} (hf : f_M_in h0 p1 p2 p3 = some r) : AM l E 1 mi_M_in [.int p1, .int p2, .int p3] h0 (some (.int r)) h0 :=
  am_of2 [(.int p1, false), (.int p2, false), (.int p3, false)] 0 ⟨rfl, rfl, rfl, trivial⟩ rfl rfl (v_M_in (Nat.le_refl _) (Nat.le_refl _) (fun hz pc L hd => ax_zret rfl hz hd rfl) hf)
theorem w_M_link_L3 {l : Launch} {E : EN} {R : Room} {B : (Nat × Nat) × (Nat × Nat)} {Qf : QF} {hF : AH} (hR1 : 1 ≤ R.frames) (hR2 : 64 ≤ R.locals) (Hr : ∀ (pc : Nat) (L : List (Option Value)), decode mi_M_link.2.1 pc = .ok (.return_, 1) → AW l E mi_M_link R B Qf pc L [] hF) {y0 : Nat} {y1 : Int64} {y3 : Int64} : ∀ (n : Nat) (z5 : Int32) (h : AH), f_M_link_L3 y0 y1 y3 n z5 h = some hF → AW l E mi_M_link R B Qf 3 [some (va_rf (some y0)), some (.long y1), none, some (.long y3), none, some (.int z5)] [] h := by
  intro n
  induction n with
  | zero => intro z5 h hf; cases hf
  | succ n ih =>
    intro z5 h hf
    rw [f_M_link_L3] at hf
    refine ax_iload (i := 5) dM_link_3 rfl ?_
    refine ax_aload_n (i := 0) (some y0) dM_link_5 rfl rfl ?_
    replace hf := bd1_s hf
    obtain ⟨x1, e_x1, hf⟩ := hf
    refine ax_getI fl_1043 rfl dM_link_6 e_x1 ?_
    replace hf := ite_c hf
    rcases hf with ⟨hc, hf⟩ | ⟨hc, hf⟩
    · refine ax_icmp_geF 44 dM_link_9 (by decide) hc ?_
      refine ax_aload_n (i := 0) (some y0) dM_link_12 rfl rfl ?_
      replace hf := bd1_s hf
      obtain ⟨r2, e_r2, hf⟩ := hf
      refine ax_getR fl_1045 rfl dM_link_13 e_r2 ?_
      refine ax_iload (i := 5) dM_link_16 rfl ?_
      refine ax_dup2 dM_link_18 rfl (cat_rf _) ?_
      replace hf := bd1_s hf
      obtain ⟨a3, e_d, hf⟩ := hf
      subst e_d
      replace hf := bd1_s hf
      obtain ⟨x4, e_x4, hf⟩ := hf
      refine ax_lald dM_link_19 e_x4 ?_
      refine ax_lload_n (i := 1) dM_link_20 rfl rfl ?_
      refine ax_iload (i := 5) dM_link_21 rfl ?_
      refine ax_lshr dM_link_23 ?_
      refine ax_lconst (1 : Int64) dM_link_24 kl_1 ?_
      refine ax_land dM_link_25 ?_
      refine ax_lconst (1 : Int64) dM_link_26 kl_1 ?_
      refine ax_lcmp dM_link_27 ?_
      replace hf := bd1_s hf
      obtain ⟨x5, hT, hf⟩ := hf
      have K : AW l E mi_M_link R B Qf 36 [some (va_rf (some y0)), some (.long y1), none, some (.long y3), none, some (.int z5)] [.long x5, .long x4, .int z5, va_rf (some a3)] h := by
        clear hT
        refine ax_lor dM_link_36 ?_
        replace hf := bd1_s hf
        obtain ⟨h6, e_h6, hf⟩ := hf
        refine ax_last dM_link_37 e_h6 ?_
        refine ax_iinc (i := 5) (z5 + (1 : Int32)) [some (va_rf (some y0)), some (.long y1), none, some (.long y3), none, some (.int (z5 + (1 : Int32)))] dM_link_38 rfl (iic k32_1) (Or.inr (c1n rfl)) rfl ?_
        refine ax_goto 3 dM_link_41 (by decide) ?_
        exact ih (z5 + (1 : Int32)) h6 hf
      replace hf := hT
      clear hT
      replace hf := ite_c hf
      rcases hf with ⟨hc, hf⟩ | ⟨hc, hf⟩
      · refine ax_if_neF 35 dM_link_28 (by decide) hc ?_
        refine ax_lload_n (i := 3) dM_link_31 rfl rfl ?_
        refine ax_goto 36 dM_link_32 (by decide) ?_
        cases hf
        exact K
      · refine ax_if_neT 35 dM_link_28 (by decide) hc ?_
        refine ax_lconst (0 : Int64) dM_link_35 kl_0 ?_
        cases hf
        exact K
    · refine ax_icmp_geT 44 dM_link_9 (by decide) hc ?_
      cases hf
      exact Hr _ _ dM_link_44
theorem v_M_link {l : Launch} {E : EN} {R : Room} {B : (Nat × Nat) × (Nat × Nat)} {Qf : QF} {h0 : AH} {o : Nat} {p1 : Int64} {p2 : Int64} {hF : AH} (hR1 : 1 ≤ R.frames) (hR2 : 64 ≤ R.locals) (Hr : ∀ (pc : Nat) (L : List (Option Value)), decode mi_M_link.2.1 pc = .ok (.return_, 1) → AW l E mi_M_link R B Qf pc L [] hF) (hf : f_M_link h0 o p1 p2 = some hF) : AW l E mi_M_link R B Qf 0 [some (va_rf (some o)), some (.long p1), none, some (.long p2), none, none] [] h0 := by
  unfold f_M_link at hf
  refine ax_iconst (0 : Int32) dM_link_0 k32_0 ?_
  refine ax_istore (i := 5) [some (va_rf (some o)), some (.long p1), none, some (.long p2), none, some (.int (0 : Int32))] dM_link_1 (Nat.le_of_ble_eq_true rfl) (Or.inr (c1n rfl)) rfl ?_
  refine w_M_link_L3 hR1 hR2 Hr FU (0 : Int32) h0 hf
theorem c_M_link {l : Launch} {E : EN} {h0 : AH} {o : Nat} {p1 : Int64} {p2 : Int64} {hF : AH} (hf : f_M_link h0 o p1 p2 = some hF) : AM l E 1 mi_M_link [va_rf (some o), .long p1, .long p2] h0 none hF :=
  am_of2 [(va_rf (some o), false), (.long p1, true), (.long p2, true)] 1 ⟨cat_rf _, rfl, rfl, trivial⟩ rfl rfl (v_M_link (Nat.le_refl _) (Nat.le_refl _) (fun pc L hd => ax_vret rfl hd rfl) hf)
theorem v_M_append {l : Launch} {E : EN} {R : Room} {B : (Nat × Nat) × (Nat × Nat)} {Qf : QF} {h0 : AH} {o : Nat} {p1 : Int32} {p2 : Int64} {p3 : Int64} {hF : AH} (hR1 : 2 ≤ R.frames) (hR2 : 128 ≤ R.locals) (Hr : ∀ (pc : Nat) (L : List (Option Value)), decode mi_M_append.2.1 pc = .ok (.return_, 1) → AW l E mi_M_append R B Qf pc L [] hF) (hf : f_M_append h0 o p1 p2 p3 = some hF) : AW l E mi_M_append R B Qf 0 [some (va_rf (some o)), some (.int p1), some (.long p2), none, some (.long p3), none] [] h0 := by
  unfold f_M_append at hf
  refine ax_aload_n (i := 0) (some o) dM_append_0 rfl rfl ?_
  refine ax_aload_n (i := 0) (some o) dM_append_1 rfl rfl ?_
  replace hf := bd1_s hf
  obtain ⟨r1, e_r1, hf⟩ := hf
  refine ax_getR fl_1039 rfl dM_append_2 e_r1 ?_
  refine ax_aload_n (i := 0) (some o) dM_append_5 rfl rfl ?_
  replace hf := bd1_s hf
  obtain ⟨x2, e_x2, hf⟩ := hf
  refine ax_getI fl_1034 rfl dM_append_6 e_x2 ?_
  replace hf := bd1_s hf
  obtain ⟨a3, e_d, hf⟩ := hf
  subst e_d
  replace hf := bd1_s hf
  obtain ⟨x4, e_x4, hf⟩ := hf
  refine ax_lald dM_append_9 e_x4 ?_
  refine ax_lload_n (i := 2) dM_append_10 rfl rfl ?_
  replace hf := bd1_s hf
  obtain ⟨h5, e_h5, hf⟩ := hf
  obtain ⟨k_e_h5, e_h5⟩ := cv_s e_h5
  refine ax_callV (As := [.long x4, .long p2]) (rest := []) (c_M_link e_h5) ml_1222 cm_M_link rfl k_e_h5 (Nat.le_trans (Nat.le_of_ble_eq_true rfl) hR1) (Nat.le_trans (Nat.le_of_ble_eq_true rfl) hR2) rfl rfl (Nat.le_of_ble_eq_true rfl) dM_append_11 ?_
  refine ax_aload_n (i := 0) (some o) dM_append_14 rfl rfl ?_
  replace hf := bd1_s hf
  obtain ⟨r6, e_r6, hf⟩ := hf
  refine ax_getR fl_1038 rfl dM_append_15 e_r6 ?_
  refine ax_aload_n (i := 0) (some o) dM_append_18 rfl rfl ?_
  replace hf := bd1_s hf
  obtain ⟨x7, e_x7, hf⟩ := hf
  refine ax_getI fl_1034 rfl dM_append_19 e_x7 ?_
  refine ax_dup2 dM_append_22 rfl (cat_rf _) ?_
  replace hf := bd1_s hf
  obtain ⟨a8, e_d, hf⟩ := hf
  subst e_d
  replace hf := bd1_s hf
  obtain ⟨x9, e_x9, hf⟩ := hf
  refine ax_lald dM_append_23 e_x9 ?_
  refine ax_aload_n (i := 0) (some o) dM_append_24 rfl rfl ?_
  replace hf := bd1_s hf
  obtain ⟨r10, e_r10, hf⟩ := hf
  refine ax_getR fl_1037 rfl dM_append_25 e_r10 ?_
  refine ax_aload_n (i := 0) (some o) dM_append_28 rfl rfl ?_
  replace hf := bd1_s hf
  obtain ⟨x11, e_x11, hf⟩ := hf
  refine ax_getI fl_1034 rfl dM_append_29 e_x11 ?_
  replace hf := bd1_s hf
  obtain ⟨a12, e_d, hf⟩ := hf
  subst e_d
  replace hf := bd1_s hf
  obtain ⟨x13, e_x13, hf⟩ := hf
  refine ax_zald dM_append_32 e_x13 ?_
  replace hf := bd1_s hf
  obtain ⟨x14, hT, hf⟩ := hf
  have K : AW l E mi_M_append R B Qf 41 [some (va_rf (some o)), some (.int p1), none, none, some (.long p3), none] [.long x14, .long x9, .int x7, va_rf (some a8)] h5 := by
    clear hT
    refine ax_lor dM_append_41 ?_
    replace hf := bd1_s hf
    obtain ⟨h15, e_h15, hf⟩ := hf
    refine ax_last dM_append_42 e_h15 ?_
    refine ax_aload_n (i := 0) (some o) dM_append_43 rfl rfl ?_
    replace hf := bd1_s hf
    obtain ⟨r16, e_r16, hf⟩ := hf
    refine ax_getR fl_1039 rfl dM_append_44 e_r16 ?_
    refine ax_aload_n (i := 0) (some o) dM_append_47 rfl rfl ?_
    replace hf := bd1_s hf
    obtain ⟨x17, e_x17, hf⟩ := hf
    refine ax_getI fl_1034 rfl dM_append_48 e_x17 ?_
    refine ax_iload_n (i := 1) dM_append_51 rfl rfl ?_
    replace hf := bd1_s hf
    obtain ⟨x22, hT, hf⟩ := hf
    have K : AW l E mi_M_append R B Qf 72 [some (va_rf (some o)), some (.int p1), none, none, none, none] [.long x22, .int x17, va_rf r16] h15 := by
      clear hT
      replace hf := bd1_s hf
      obtain ⟨a23, e_d, hf⟩ := hf
      subst e_d
      replace hf := bd1_s hf
      obtain ⟨h24, e_h24, hf⟩ := hf
      refine ax_last dM_append_72 e_h24 ?_
      refine ax_aload_n (i := 0) (some o) dM_append_73 rfl rfl ?_
      replace hf := bd1_s hf
      obtain ⟨r25, e_r25, hf⟩ := hf
      refine ax_getR fl_1037 rfl dM_append_74 e_r25 ?_
      refine ax_aload_n (i := 0) (some o) dM_append_77 rfl rfl ?_
      replace hf := bd1_s hf
      obtain ⟨x26, e_x26, hf⟩ := hf
      refine ax_getI fl_1034 rfl dM_append_78 e_x26 ?_
      refine ax_aload_n (i := 0) (some o) dM_append_81 rfl rfl ?_
      replace hf := bd1_s hf
      obtain ⟨r27, e_r27, hf⟩ := hf
      refine ax_getR fl_1037 rfl dM_append_82 e_r27 ?_
      refine ax_aload_n (i := 0) (some o) dM_append_85 rfl rfl ?_
      replace hf := bd1_s hf
      obtain ⟨x28, e_x28, hf⟩ := hf
      refine ax_getI fl_1034 rfl dM_append_86 e_x28 ?_
      replace hf := bd1_s hf
      obtain ⟨a29, e_d, hf⟩ := hf
      subst e_d
      replace hf := bd1_s hf
      obtain ⟨x30, e_x30, hf⟩ := hf
      refine ax_zald dM_append_89 e_x30 ?_
      replace hf := bd1_s hf
      obtain ⟨x31, hT, hf⟩ := hf
      have K : AW l E mi_M_append R B Qf 102 [none, none, none, none, none, none] [.int x31, .int x26, va_rf r25] h24 := by
        clear hT
        replace hf := bd1_s hf
        obtain ⟨a32, e_d, hf⟩ := hf
        subst e_d
        replace hf := bd1_s hf
        obtain ⟨h33, e_h33, hf⟩ := hf
        refine ax_zast dM_append_102 e_h33 ?_
        cases hf
        exact Hr _ _ dM_append_103
      replace hf := hT
      clear hT
      replace hf := ite_c hf
      rcases hf with ⟨hc, hf⟩ | ⟨hc, hf⟩
      · refine ax_if_eqT 101 dM_append_90 (by decide) hc ?_
        refine ax_iconst (0 : Int32) dM_append_101 k32_0 ?_
        refine ax_mask [false, false, true, true, true, true] rfl [none, none, none, none, none, none] rfl ?_
        cases hf
        exact K
      · refine ax_if_eqF 101 dM_append_90 (by decide) hc ?_
        refine ax_iload_n (i := 1) dM_append_93 rfl rfl ?_
        replace hf := ite_c hf
        rcases hf with ⟨hc, hf⟩ | ⟨hc, hf⟩
        · refine ax_if_eqT 101 dM_append_94 (by decide) hc ?_
          refine ax_iconst (0 : Int32) dM_append_101 k32_0 ?_
          refine ax_mask [false, false, true, true, true, true] rfl [none, none, none, none, none, none] rfl ?_
          cases hf
          exact K
        · refine ax_if_eqF 101 dM_append_94 (by decide) hc ?_
          refine ax_iconst (1 : Int32) dM_append_97 k32_1 ?_
          refine ax_goto 102 dM_append_98 (by decide) ?_
          refine ax_mask [false, false, true, true, true, true] rfl [none, none, none, none, none, none] rfl ?_
          cases hf
          exact K
    replace hf := hT
    clear hT
    replace hf := ite_c hf
    rcases hf with ⟨hc, hf⟩ | ⟨hc, hf⟩
    · refine ax_if_eqT 70 dM_append_52 (by decide) hc ?_
      refine ax_lload (i := 4) dM_append_70 rfl ?_
      refine ax_mask [true, true, true, true, false, true] rfl [some (va_rf (some o)), some (.int p1), none, none, none, none] rfl ?_
      cases hf
      exact K
    · refine ax_if_eqF 70 dM_append_52 (by decide) hc ?_
      refine ax_aload_n (i := 0) (some o) dM_append_55 rfl rfl ?_
      replace hf := bd1_s hf
      obtain ⟨r18, e_r18, hf⟩ := hf
      refine ax_getR fl_1039 rfl dM_append_56 e_r18 ?_
      refine ax_aload_n (i := 0) (some o) dM_append_59 rfl rfl ?_
      replace hf := bd1_s hf
      obtain ⟨x19, e_x19, hf⟩ := hf
      refine ax_getI fl_1034 rfl dM_append_60 e_x19 ?_
      replace hf := bd1_s hf
      obtain ⟨a20, e_d, hf⟩ := hf
      subst e_d
      replace hf := bd1_s hf
      obtain ⟨x21, e_x21, hf⟩ := hf
      refine ax_lald dM_append_63 e_x21 ?_
      refine ax_lload (i := 4) dM_append_64 rfl ?_
      refine ax_lor dM_append_66 ?_
      refine ax_goto 72 dM_append_67 (by decide) ?_
      refine ax_mask [true, true, true, true, false, true] rfl [some (va_rf (some o)), some (.int p1), none, none, none, none] rfl ?_
      cases hf
      exact K
  replace hf := hT
  clear hT
  replace hf := ite_c hf
  rcases hf with ⟨hc, hf⟩ | ⟨hc, hf⟩
  · refine ax_if_eqT 40 dM_append_33 (by decide) hc ?_
    refine ax_lconst (0 : Int64) dM_append_40 kl_0 ?_
    refine ax_mask [true, true, false, true, true, true] rfl [some (va_rf (some o)), some (.int p1), none, none, some (.long p3), none] rfl ?_
    cases hf
    exact K
  · refine ax_if_eqF 40 dM_append_33 (by decide) hc ?_
    refine ax_lload_n (i := 2) dM_append_36 rfl rfl ?_
    refine ax_goto 41 dM_append_37 (by decide) ?_
    refine ax_mask [true, true, false, true, true, true] rfl [some (va_rf (some o)), some (.int p1), none, none, some (.long p3), none] rfl ?_
    cases hf
    exact K
theorem c_M_append {l : Launch} {E : EN} {h0 : AH} {o : Nat} {p1 : Int32} {p2 : Int64} {p3 : Int64} {hF : AH} (hf : f_M_append h0 o p1 p2 p3 = some hF) : AM l E 2 mi_M_append [va_rf (some o), .int p1, .long p2, .long p3] h0 none hF :=
  am_of2 [(va_rf (some o), false), (.int p1, false), (.long p2, true), (.long p3, true)] 0 ⟨cat_rf _, rfl, rfl, rfl, trivial⟩ rfl rfl (v_M_append (Nat.le_refl _) (Nat.le_refl _) (fun pc L hd => ax_vret rfl hd rfl) hf)
theorem v_M_gather {l : Launch} {E : EN} {R : Room} {B : (Nat × Nat) × (Nat × Nat)} {Qf : QF} {h0 : AH} {o : Nat} {hF : AH} (hR1 : 1 ≤ R.frames) (hR2 : 64 ≤ R.locals) (Hr : ∀ (pc : Nat) (L : List (Option Value)), decode mi_M_gather.2.1 pc = .ok (.return_, 1) → AW l E mi_M_gather R B Qf pc L [] hF) (hf : f_M_gather h0 o = some hF) : AW l E mi_M_gather R B Qf 0 [some (va_rf (some o))] [] h0 := by
  unfold f_M_gather at hf
  refine ax_aload_n (i := 0) (some o) dM_gather_0 rfl rfl ?_
  replace hf := bd1_s hf
  obtain ⟨r1, e_r1, hf⟩ := hf
  refine ax_getR fl_1040 rfl dM_gather_1 e_r1 ?_
  refine ax_aload_n (i := 0) (some o) dM_gather_4 rfl rfl ?_
  replace hf := bd1_s hf
  obtain ⟨x2, e_x2, hf⟩ := hf
  refine ax_getI fl_1034 rfl dM_gather_5 e_x2 ?_
  refine ax_aload_n (i := 0) (some o) dM_gather_8 rfl rfl ?_
  replace hf := bd1_s hf
  obtain ⟨r3, e_r3, hf⟩ := hf
  refine ax_getR fl_1040 rfl dM_gather_9 e_r3 ?_
  refine ax_aload_n (i := 0) (some o) dM_gather_12 rfl rfl ?_
  replace hf := bd1_s hf
  obtain ⟨x4, e_x4, hf⟩ := hf
  refine ax_getI fl_1034 rfl dM_gather_13 e_x4 ?_
  replace hf := bd1_s hf
  obtain ⟨a5, e_d, hf⟩ := hf
  subst e_d
  replace hf := bd1_s hf
  obtain ⟨x6, e_x6, hf⟩ := hf
  refine ax_zald dM_gather_16 e_x6 ?_
  replace hf := bd1_s hf
  obtain ⟨x11, hT, hf⟩ := hf
  have K : AW l E mi_M_gather R B Qf 37 [some (va_rf (some o))] [.int x11, .int x2, va_rf r1] h0 := by
    clear hT
    replace hf := bd1_s hf
    obtain ⟨a12, e_d, hf⟩ := hf
    subst e_d
    replace hf := bd1_s hf
    obtain ⟨h13, e_h13, hf⟩ := hf
    refine ax_zast dM_gather_37 e_h13 ?_
    refine ax_aload_n (i := 0) (some o) dM_gather_38 rfl rfl ?_
    replace hf := bd1_s hf
    obtain ⟨r14, e_r14, hf⟩ := hf
    refine ax_getR fl_1041 rfl dM_gather_39 e_r14 ?_
    refine ax_aload_n (i := 0) (some o) dM_gather_42 rfl rfl ?_
    replace hf := bd1_s hf
    obtain ⟨x15, e_x15, hf⟩ := hf
    refine ax_getI fl_1034 rfl dM_gather_43 e_x15 ?_
    refine ax_dup2 dM_gather_46 rfl (cat_rf _) ?_
    replace hf := bd1_s hf
    obtain ⟨a16, e_d, hf⟩ := hf
    subst e_d
    replace hf := bd1_s hf
    obtain ⟨x17, e_x17, hf⟩ := hf
    refine ax_lald dM_gather_47 e_x17 ?_
    refine ax_aload_n (i := 0) (some o) dM_gather_48 rfl rfl ?_
    replace hf := bd1_s hf
    obtain ⟨r18, e_r18, hf⟩ := hf
    refine ax_getR fl_1038 rfl dM_gather_49 e_r18 ?_
    refine ax_aload_n (i := 0) (some o) dM_gather_52 rfl rfl ?_
    replace hf := bd1_s hf
    obtain ⟨x19, e_x19, hf⟩ := hf
    refine ax_getI fl_1034 rfl dM_gather_53 e_x19 ?_
    replace hf := bd1_s hf
    obtain ⟨a20, e_d, hf⟩ := hf
    subst e_d
    replace hf := bd1_s hf
    obtain ⟨x21, e_x21, hf⟩ := hf
    refine ax_lald dM_gather_56 e_x21 ?_
    refine ax_lor dM_gather_57 ?_
    replace hf := bd1_s hf
    obtain ⟨h22, e_h22, hf⟩ := hf
    refine ax_last dM_gather_58 e_h22 ?_
    refine ax_aload_n (i := 0) (some o) dM_gather_59 rfl rfl ?_
    replace hf := bd1_s hf
    obtain ⟨r23, e_r23, hf⟩ := hf
    refine ax_getR fl_1042 rfl dM_gather_60 e_r23 ?_
    refine ax_aload_n (i := 0) (some o) dM_gather_63 rfl rfl ?_
    replace hf := bd1_s hf
    obtain ⟨x24, e_x24, hf⟩ := hf
    refine ax_getI fl_1034 rfl dM_gather_64 e_x24 ?_
    refine ax_dup2 dM_gather_67 rfl (cat_rf _) ?_
    replace hf := bd1_s hf
    obtain ⟨a25, e_d, hf⟩ := hf
    subst e_d
    replace hf := bd1_s hf
    obtain ⟨x26, e_x26, hf⟩ := hf
    refine ax_lald dM_gather_68 e_x26 ?_
    refine ax_aload_n (i := 0) (some o) dM_gather_69 rfl rfl ?_
    replace hf := bd1_s hf
    obtain ⟨r27, e_r27, hf⟩ := hf
    refine ax_getR fl_1039 rfl dM_gather_70 e_r27 ?_
    refine ax_aload_n (i := 0) (some o) dM_gather_73 rfl rfl ?_
    replace hf := bd1_s hf
    obtain ⟨x28, e_x28, hf⟩ := hf
    refine ax_getI fl_1034 rfl dM_gather_74 e_x28 ?_
    replace hf := bd1_s hf
    obtain ⟨a29, e_d, hf⟩ := hf
    subst e_d
    replace hf := bd1_s hf
    obtain ⟨x30, e_x30, hf⟩ := hf
    refine ax_lald dM_gather_77 e_x30 ?_
    refine ax_lor dM_gather_78 ?_
    replace hf := bd1_s hf
    obtain ⟨h31, e_h31, hf⟩ := hf
    refine ax_last dM_gather_79 e_h31 ?_
    cases hf
    exact Hr _ _ dM_gather_80
  replace hf := hT
  clear hT
  replace hf := ite_c hf
  rcases hf with ⟨hc, hf⟩ | ⟨hc, hf⟩
  · refine ax_if_neF 32 dM_gather_17 (by decide) hc ?_
    refine ax_aload_n (i := 0) (some o) dM_gather_20 rfl rfl ?_
    replace hf := bd1_s hf
    obtain ⟨r7, e_r7, hf⟩ := hf
    refine ax_getR fl_1037 rfl dM_gather_21 e_r7 ?_
    refine ax_aload_n (i := 0) (some o) dM_gather_24 rfl rfl ?_
    replace hf := bd1_s hf
    obtain ⟨x8, e_x8, hf⟩ := hf
    refine ax_getI fl_1034 rfl dM_gather_25 e_x8 ?_
    replace hf := bd1_s hf
    obtain ⟨a9, e_d, hf⟩ := hf
    subst e_d
    replace hf := bd1_s hf
    obtain ⟨x10, e_x10, hf⟩ := hf
    refine ax_zald dM_gather_28 e_x10 ?_
    replace hf := ite_c hf
    rcases hf with ⟨hc, hf⟩ | ⟨hc, hf⟩
    · refine ax_if_eqT 36 dM_gather_29 (by decide) hc ?_
      refine ax_iconst (0 : Int32) dM_gather_36 k32_0 ?_
      cases hf
      exact K
    · refine ax_if_eqF 36 dM_gather_29 (by decide) hc ?_
      refine ax_iconst (1 : Int32) dM_gather_32 k32_1 ?_
      refine ax_goto 37 dM_gather_33 (by decide) ?_
      cases hf
      exact K
  · refine ax_if_neT 32 dM_gather_17 (by decide) hc ?_
    refine ax_iconst (1 : Int32) dM_gather_32 k32_1 ?_
    refine ax_goto 37 dM_gather_33 (by decide) ?_
    cases hf
    exact K
theorem c_M_gather {l : Launch} {E : EN} {h0 : AH} {o : Nat} {hF : AH} (hf : f_M_gather h0 o = some hF) : AM l E 1 mi_M_gather [va_rf (some o)] h0 none hF :=
  am_of2 [(va_rf (some o), false)] 0 ⟨cat_rf _, trivial⟩ rfl rfl (v_M_gather (Nat.le_refl _) (Nat.le_refl _) (fun pc L hd => ax_vret rfl hd rfl) hf)
theorem v_M_close {l : Launch} {E : EN} {R : Room} {B : (Nat × Nat) × (Nat × Nat)} {Qf : QF} {h0 : AH} {o : Nat} {p1 : Int32} {hF : AH} (hR1 : 3 ≤ R.frames) (hR2 : 192 ≤ R.locals) (Hr : ∀ (pc : Nat) (L : List (Option Value)), decode mi_M_close.2.1 pc = .ok (.return_, 1) → AW l E mi_M_close R B Qf pc L [] hF) (hf : f_M_close h0 o p1 = some hF) : AW l E mi_M_close R B Qf 0 [some (va_rf (some o)), some (.int p1)] [] h0 := by
  unfold f_M_close at hf
  refine ax_iload_n (i := 1) dM_close_0 rfl rfl ?_
  refine ax_iconst (1 : Int32) dM_close_1 k32_1 ?_
  replace hf := ite_c hf
  rcases hf with ⟨hc, hf⟩ | ⟨hc, hf⟩
  · refine ax_icmp_neF 59 dM_close_2 (by decide) hc ?_
    refine ax_aload_n (i := 0) (some o) dM_close_5 rfl rfl ?_
    replace hf := bd1_s hf
    obtain ⟨h21, e_h21, hf⟩ := hf
    obtain ⟨k_e_h21, e_h21⟩ := cv_s e_h21
    refine ax_callV (As := []) (rest := []) (c_M_gather e_h21) ml_1226 cm_M_gather rfl k_e_h21 (Nat.le_trans (Nat.le_of_ble_eq_true rfl) hR1) (Nat.le_trans (Nat.le_of_ble_eq_true rfl) hR2) rfl rfl (Nat.le_of_ble_eq_true rfl) dM_close_6 ?_
    refine ax_aload_n (i := 0) (some o) dM_close_9 rfl rfl ?_
    refine ax_dup dM_close_10 rfl ?_
    replace hf := bd1_s hf
    obtain ⟨x22, e_x22, hf⟩ := hf
    refine ax_getI fl_1034 rfl dM_close_11 e_x22 ?_
    refine ax_iconst (1 : Int32) dM_close_14 k32_1 ?_
    refine ax_isub dM_close_15 ?_
    replace hf := bd1_s hf
    obtain ⟨h23, e_h23, hf⟩ := hf
    refine ax_putI fw_1034 rfl rfl dM_close_16 e_h23 ?_
    refine ax_aload_n (i := 0) (some o) dM_close_19 rfl rfl ?_
    refine ax_aload_n (i := 0) (some o) dM_close_20 rfl rfl ?_
    replace hf := bd1_s hf
    obtain ⟨r24, e_r24, hf⟩ := hf
    refine ax_getR fl_1040 rfl dM_close_21 e_r24 ?_
    refine ax_aload_n (i := 0) (some o) dM_close_24 rfl rfl ?_
    replace hf := bd1_s hf
    obtain ⟨x25, e_x25, hf⟩ := hf
    refine ax_getI fl_1034 rfl dM_close_25 e_x25 ?_
    refine ax_iconst (1 : Int32) dM_close_28 k32_1 ?_
    refine ax_iadd dM_close_29 ?_
    replace hf := bd1_s hf
    obtain ⟨a26, e_d, hf⟩ := hf
    subst e_d
    replace hf := bd1_s hf
    obtain ⟨x27, e_x27, hf⟩ := hf
    refine ax_zald dM_close_30 e_x27 ?_
    refine ax_aload_n (i := 0) (some o) dM_close_31 rfl rfl ?_
    replace hf := bd1_s hf
    obtain ⟨r28, e_r28, hf⟩ := hf
    refine ax_getR fl_1041 rfl dM_close_32 e_r28 ?_
    refine ax_aload_n (i := 0) (some o) dM_close_35 rfl rfl ?_
    replace hf := bd1_s hf
    obtain ⟨x29, e_x29, hf⟩ := hf
    refine ax_getI fl_1034 rfl dM_close_36 e_x29 ?_
    refine ax_iconst (1 : Int32) dM_close_39 k32_1 ?_
    refine ax_iadd dM_close_40 ?_
    replace hf := bd1_s hf
    obtain ⟨a30, e_d, hf⟩ := hf
    subst e_d
    replace hf := bd1_s hf
    obtain ⟨x31, e_x31, hf⟩ := hf
    refine ax_lald dM_close_41 e_x31 ?_
    refine ax_aload_n (i := 0) (some o) dM_close_42 rfl rfl ?_
    replace hf := bd1_s hf
    obtain ⟨r32, e_r32, hf⟩ := hf
    refine ax_getR fl_1042 rfl dM_close_43 e_r32 ?_
    refine ax_aload_n (i := 0) (some o) dM_close_46 rfl rfl ?_
    replace hf := bd1_s hf
    obtain ⟨x33, e_x33, hf⟩ := hf
    refine ax_getI fl_1034 rfl dM_close_47 e_x33 ?_
    refine ax_iconst (1 : Int32) dM_close_50 k32_1 ?_
    refine ax_iadd dM_close_51 ?_
    replace hf := bd1_s hf
    obtain ⟨a34, e_d, hf⟩ := hf
    subst e_d
    replace hf := bd1_s hf
    obtain ⟨x35, e_x35, hf⟩ := hf
    refine ax_lald dM_close_52 e_x35 ?_
    replace hf := bd1_s hf
    obtain ⟨h36, e_h36, hf⟩ := hf
    obtain ⟨k_e_h36, e_h36⟩ := cv_s e_h36
    refine ax_callV (As := [.int x27, .long x31, .long x35]) (rest := []) (c_M_append e_h36) ml_1218 cm_M_append rfl k_e_h36 (Nat.le_trans (Nat.le_of_ble_eq_true rfl) hR1) (Nat.le_trans (Nat.le_of_ble_eq_true rfl) hR2) rfl rfl (Nat.le_of_ble_eq_true rfl) dM_close_53 ?_
    refine ax_goto 118 dM_close_56 (by decide) ?_
    cases hf
    exact Hr _ _ dM_close_118
  · refine ax_icmp_neT 59 dM_close_2 (by decide) hc ?_
    refine ax_aload_n (i := 0) (some o) dM_close_59 rfl rfl ?_
    refine ax_aload_n (i := 0) (some o) dM_close_60 rfl rfl ?_
    replace hf := bd1_s hf
    obtain ⟨r1, e_r1, hf⟩ := hf
    refine ax_getR fl_1039 rfl dM_close_61 e_r1 ?_
    refine ax_aload_n (i := 0) (some o) dM_close_64 rfl rfl ?_
    replace hf := bd1_s hf
    obtain ⟨x2, e_x2, hf⟩ := hf
    refine ax_getI fl_1034 rfl dM_close_65 e_x2 ?_
    replace hf := bd1_s hf
    obtain ⟨a3, e_d, hf⟩ := hf
    subst e_d
    replace hf := bd1_s hf
    obtain ⟨x4, e_x4, hf⟩ := hf
    refine ax_lald dM_close_68 e_x4 ?_
    refine ax_aload_n (i := 0) (some o) dM_close_69 rfl rfl ?_
    replace hf := bd1_s hf
    obtain ⟨r5, e_r5, hf⟩ := hf
    refine ax_getR fl_1038 rfl dM_close_70 e_r5 ?_
    refine ax_aload_n (i := 0) (some o) dM_close_73 rfl rfl ?_
    replace hf := bd1_s hf
    obtain ⟨x6, e_x6, hf⟩ := hf
    refine ax_getI fl_1034 rfl dM_close_74 e_x6 ?_
    replace hf := bd1_s hf
    obtain ⟨a7, e_d, hf⟩ := hf
    subst e_d
    replace hf := bd1_s hf
    obtain ⟨x8, e_x8, hf⟩ := hf
    refine ax_lald dM_close_77 e_x8 ?_
    replace hf := bd1_s hf
    obtain ⟨h9, e_h9, hf⟩ := hf
    obtain ⟨k_e_h9, e_h9⟩ := cv_s e_h9
    refine ax_callV (As := [.long x4, .long x8]) (rest := []) (c_M_link e_h9) ml_1222 cm_M_link rfl k_e_h9 (Nat.le_trans (Nat.le_of_ble_eq_true rfl) hR1) (Nat.le_trans (Nat.le_of_ble_eq_true rfl) hR2) rfl rfl (Nat.le_of_ble_eq_true rfl) dM_close_78 ?_
    refine ax_aload_n (i := 0) (some o) dM_close_81 rfl rfl ?_
    refine ax_dup dM_close_82 rfl ?_
    replace hf := bd1_s hf
    obtain ⟨x10, e_x10, hf⟩ := hf
    refine ax_getI fl_1034 rfl dM_close_83 e_x10 ?_
    refine ax_iconst (1 : Int32) dM_close_86 k32_1 ?_
    refine ax_isub dM_close_87 ?_
    replace hf := bd1_s hf
    obtain ⟨h11, e_h11, hf⟩ := hf
    refine ax_putI fw_1034 rfl rfl dM_close_88 e_h11 ?_
    refine ax_aload_n (i := 0) (some o) dM_close_91 rfl rfl ?_
    refine ax_iconst (1 : Int32) dM_close_92 k32_1 ?_
    refine ax_aload_n (i := 0) (some o) dM_close_93 rfl rfl ?_
    replace hf := bd1_s hf
    obtain ⟨r12, e_r12, hf⟩ := hf
    refine ax_getR fl_1038 rfl dM_close_94 e_r12 ?_
    refine ax_aload_n (i := 0) (some o) dM_close_97 rfl rfl ?_
    replace hf := bd1_s hf
    obtain ⟨x13, e_x13, hf⟩ := hf
    refine ax_getI fl_1034 rfl dM_close_98 e_x13 ?_
    refine ax_iconst (1 : Int32) dM_close_101 k32_1 ?_
    refine ax_iadd dM_close_102 ?_
    replace hf := bd1_s hf
    obtain ⟨a14, e_d, hf⟩ := hf
    subst e_d
    replace hf := bd1_s hf
    obtain ⟨x15, e_x15, hf⟩ := hf
    refine ax_lald dM_close_103 e_x15 ?_
    refine ax_aload_n (i := 0) (some o) dM_close_104 rfl rfl ?_
    replace hf := bd1_s hf
    obtain ⟨r16, e_r16, hf⟩ := hf
    refine ax_getR fl_1039 rfl dM_close_105 e_r16 ?_
    refine ax_aload_n (i := 0) (some o) dM_close_108 rfl rfl ?_
    replace hf := bd1_s hf
    obtain ⟨x17, e_x17, hf⟩ := hf
    refine ax_getI fl_1034 rfl dM_close_109 e_x17 ?_
    refine ax_iconst (1 : Int32) dM_close_112 k32_1 ?_
    refine ax_iadd dM_close_113 ?_
    replace hf := bd1_s hf
    obtain ⟨a18, e_d, hf⟩ := hf
    subst e_d
    replace hf := bd1_s hf
    obtain ⟨x19, e_x19, hf⟩ := hf
    refine ax_lald dM_close_114 e_x19 ?_
    replace hf := bd1_s hf
    obtain ⟨h20, e_h20, hf⟩ := hf
    obtain ⟨k_e_h20, e_h20⟩ := cv_s e_h20
    refine ax_callV (As := [.int (1 : Int32), .long x15, .long x19]) (rest := []) (c_M_append e_h20) ml_1218 cm_M_append rfl k_e_h20 (Nat.le_trans (Nat.le_of_ble_eq_true rfl) hR1) (Nat.le_trans (Nat.le_of_ble_eq_true rfl) hR2) rfl rfl (Nat.le_of_ble_eq_true rfl) dM_close_115 ?_
    cases hf
    exact Hr _ _ dM_close_118
theorem c_M_close {l : Launch} {E : EN} {h0 : AH} {o : Nat} {p1 : Int32} {hF : AH} (hf : f_M_close h0 o p1 = some hF) : AM l E 3 mi_M_close [va_rf (some o), .int p1] h0 none hF :=
  am_of2 [(va_rf (some o), false), (.int p1, false)] 0 ⟨cat_rf _, rfl, trivial⟩ rfl rfl (v_M_close (Nat.le_refl _) (Nat.le_refl _) (fun pc L hd => ax_vret rfl hd rfl) hf)
