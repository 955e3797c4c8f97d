theorem w_M_talk_L70 {l : Launch} {E : EN} {R : Room} {B : (Nat × Nat) × (Nat × Nat)} {Qf : QF} {ρ : Type} {res : ρ} (hR1 : 5 ≤ R.frames) (hR2 : 320 ≤ R.locals) {y0 : Nat} {y1 : Int32} {k : AH → Option (ρ)} (hk : ∀ (h : AH), k h = some res → AW l E mi_M_talk R B Qf 98 [some (va_rf (some y0)), some (.int y1), none] [] h) : ∀ (n : Nat) (z2 : Int32) (h : AH), f_M_talk_L70 y0 y1 k n z2 h = some res → AW l E mi_M_talk R B Qf 70 [some (va_rf (some y0)), some (.int y1), some (.int z2)] [] h := by
  intro n
  induction n with
  | zero => intro z2 h hf; cases hf
  | succ n ih =>
    intro z2 h hf
    rw [f_M_talk_L70] at hf
    refine ax_iload_n (i := 2) dM_talk_70 rfl rfl ?_
    refine ax_bipush (16 : Int32) dM_talk_71 k8_16 ?_
    replace hf := ite_c hf
    rcases hf with ⟨hc, hf⟩ | ⟨hc, hf⟩
    · refine ax_icmp_geF 98 dM_talk_73 (by decide) hc ?_
      refine ax_aload_n (i := 0) (some y0) dM_talk_76 rfl rfl ?_
      replace hf := bd1_s hf
      obtain ⟨r12, e_r12, hf⟩ := hf
      refine ax_getR fl_1017 rfl dM_talk_77 e_r12 ?_
      refine ax_aload_n (i := 0) (some y0) dM_talk_80 rfl rfl ?_
      replace hf := bd1_s hf
      obtain ⟨x13, e_x13, hf⟩ := hf
      refine ax_getI fl_1015 rfl dM_talk_81 e_x13 ?_
      refine ax_iload_n (i := 1) dM_talk_84 rfl rfl ?_
      refine ax_iconst (0 : Int32) dM_talk_85 k32_0 ?_
      refine ax_iload_n (i := 2) dM_talk_86 rfl rfl ?_
      replace hf := bd1_s hf
      obtain ⟨x14, e_x14, hf⟩ := hf
      refine ax_callS (As := [.int x13, .int y1, .int (0 : Int32), .int z2]) (rest := [va_rf r12]) (c_M_place e_x14) ml_1246 cm_M_place (Nat.le_trans (Nat.le_of_ble_eq_true rfl) hR1) (Nat.le_trans (Nat.le_of_ble_eq_true rfl) hR2) rfl rfl (by simp only [List.map_cons, List.map_nil, List.sum_cons, List.sum_nil, cat_rf]; exact Nat.le_of_ble_eq_true rfl) dM_talk_87 ?_
      refine ax_iconst (-1 : Int32) dM_talk_90 k32_m1 ?_
      replace hf := bd1_s hf
      obtain ⟨a15, e_d, hf⟩ := hf
      subst e_d
      replace hf := bd1_s hf
      obtain ⟨h16, e_h16, hf⟩ := hf
      refine ax_iast dM_talk_91 e_h16 ?_
      refine ax_iinc (i := 2) (z2 + (1 : Int32)) [some (va_rf (some y0)), some (.int y1), some (.int (z2 + (1 : Int32)))] dM_talk_92 rfl (iic k32_1) (Or.inr (c1i rfl)) rfl ?_
      refine ax_goto 70 dM_talk_95 (by decide) ?_
      exact ih (z2 + (1 : Int32)) h16 hf
    · refine ax_icmp_geT 98 dM_talk_73 (by decide) hc ?_
      refine ax_mask [true, true, false] rfl [some (va_rf (some y0)), some (.int y1), none] rfl ?_
      exact hk h hf
theorem w_M_talk_L100 {l : Launch} {E : EN} {R : Room} {B : (Nat × Nat) × (Nat × Nat)} {Qf : QF} {ρ : Type} {res : ρ} (hR1 : 5 ≤ R.frames) (hR2 : 320 ≤ R.locals) {y0 : Nat} {y1 : Int32} {k : AH → Option (ρ)} (hk : ∀ (h : AH), k h = some res → AW l E mi_M_talk R B Qf 160 [some (va_rf (some y0)), some (.int y1), none] [] h) : ∀ (n : Nat) (z2 : Int32) (h : AH), f_M_talk_L100 y0 y1 k n z2 h = some res → AW l E mi_M_talk R B Qf 100 [some (va_rf (some y0)), some (.int y1), some (.int z2)] [] h := by
  intro n
  induction n with
  | zero => intro z2 h hf; cases hf
  | succ n ih =>
    intro z2 h hf
    rw [f_M_talk_L100] at hf
    refine ax_iload_n (i := 2) dM_talk_100 rfl rfl ?_
    refine ax_aload_n (i := 0) (some y0) dM_talk_101 rfl rfl ?_
    replace hf := bd1_s hf
    obtain ⟨x18, e_x18, hf⟩ := hf
    refine ax_getI fl_1043 rfl dM_talk_102 e_x18 ?_
    replace hf := ite_c hf
    rcases hf with ⟨hc, hf⟩ | ⟨hc, hf⟩
    · refine ax_icmp_geF 160 dM_talk_105 (by decide) hc ?_
      refine ax_aload_n (i := 0) (some y0) dM_talk_108 rfl rfl ?_
      refine ax_iload_n (i := 1) dM_talk_109 rfl rfl ?_
      replace hf := bd1_s hf
      obtain ⟨x19, e_x19, hf⟩ := hf
      obtain ⟨k_e_x19, e_x19⟩ := cv_s e_x19
      refine ax_callV (As := [.int y1]) (rest := []) (c_M_nextSet e_x19) ml_1242 cm_M_nextSet rfl k_e_x19 (Nat.le_trans (Nat.le_of_ble_eq_true rfl) hR1) (Nat.le_trans (Nat.le_of_ble_eq_true rfl) hR2) rfl rfl (Nat.le_of_ble_eq_true rfl) dM_talk_110 ?_
      refine ax_iload_n (i := 2) dM_talk_113 rfl rfl ?_
      refine ax_lshr dM_talk_114 ?_
      refine ax_lconst (1 : Int64) dM_talk_115 kl_1 ?_
      refine ax_land dM_talk_116 ?_
      refine ax_lconst (1 : Int64) dM_talk_117 kl_1 ?_
      refine ax_lcmp dM_talk_118 ?_
      replace hf := ite_c hf
      rcases hf with ⟨hc, hf⟩ | ⟨hc, hf⟩
      · refine ax_if_neF 154 dM_talk_119 (by decide) hc ?_
        refine ax_aload_n (i := 0) (some y0) dM_talk_122 rfl rfl ?_
        replace hf := bd1_s hf
        obtain ⟨r20, e_r20, hf⟩ := hf
        refine ax_getR fl_1017 rfl dM_talk_123 e_r20 ?_
        refine ax_aload_n (i := 0) (some y0) dM_talk_126 rfl rfl ?_
        replace hf := bd1_s hf
        obtain ⟨x21, e_x21, hf⟩ := hf
        refine ax_getI fl_1015 rfl dM_talk_127 e_x21 ?_
        refine ax_iload_n (i := 1) dM_talk_130 rfl rfl ?_
        refine ax_aload_n (i := 0) (some y0) dM_talk_131 rfl rfl ?_
        replace hf := bd1_s hf
        obtain ⟨r22, e_r22, hf⟩ := hf
        refine ax_getR fl_1044 rfl dM_talk_132 e_r22 ?_
        refine ax_iload_n (i := 2) dM_talk_135 rfl rfl ?_
        replace hf := bd1_s hf
        obtain ⟨a23, e_d, hf⟩ := hf
        subst e_d
        replace hf := bd1_s hf
        obtain ⟨x24, e_x24, hf⟩ := hf
        refine ax_iald dM_talk_136 e_x24 ?_
        refine ax_iconst (2 : Int32) dM_talk_137 k32_2 ?_
        refine ax_irem dM_talk_138 (by decide) ?_
        refine ax_aload_n (i := 0) (some y0) dM_talk_139 rfl rfl ?_
        replace hf := bd1_s hf
        obtain ⟨r25, e_r25, hf⟩ := hf
        refine ax_getR fl_1044 rfl dM_talk_140 e_r25 ?_
        refine ax_iload_n (i := 2) dM_talk_143 rfl rfl ?_
        replace hf := bd1_s hf
        obtain ⟨a26, e_d, hf⟩ := hf
        subst e_d
        replace hf := bd1_s hf
        obtain ⟨x27, e_x27, hf⟩ := hf
        refine ax_iald dM_talk_144 e_x27 ?_
        refine ax_iconst (2 : Int32) dM_talk_145 k32_2 ?_
        refine ax_idiv dM_talk_146 (by decide) ?_
        replace hf := bd1_s hf
        obtain ⟨x28, e_x28, hf⟩ := hf
        refine ax_callS (As := [.int x21, .int y1, .int (x24 - x24 / (2 : Int32) * (2 : Int32)), .int (x27 / (2 : Int32))]) (rest := [va_rf r20]) (c_M_place e_x28) ml_1246 cm_M_place (Nat.le_trans (Nat.le_of_ble_eq_true rfl) hR1) (Nat.le_trans (Nat.le_of_ble_eq_true rfl) hR2) rfl rfl (by simp only [List.map_cons, List.map_nil, List.sum_cons, List.sum_nil, cat_rf]; exact Nat.le_of_ble_eq_true rfl) dM_talk_147 ?_
        refine ax_iload_n (i := 2) dM_talk_150 rfl rfl ?_
        refine ax_iconst (1 : Int32) dM_talk_151 k32_1 ?_
        refine ax_iadd dM_talk_152 ?_
        replace hf := bd1_s hf
        obtain ⟨a29, e_d, hf⟩ := hf
        subst e_d
        replace hf := bd1_s hf
        obtain ⟨h30, e_h30, hf⟩ := hf
        refine ax_iast dM_talk_153 e_h30 ?_
        refine ax_iinc (i := 2) (z2 + (1 : Int32)) [some (va_rf (some y0)), some (.int y1), some (.int (z2 + (1 : Int32)))] dM_talk_154 rfl (iic k32_1) (Or.inr (c1i rfl)) rfl ?_
        refine ax_goto 100 dM_talk_157 (by decide) ?_
        exact ih (z2 + (1 : Int32)) h30 hf
      · refine ax_if_neT 154 dM_talk_119 (by decide) hc ?_
        refine ax_iinc (i := 2) (z2 + (1 : Int32)) [some (va_rf (some y0)), some (.int y1), some (.int (z2 + (1 : Int32)))] dM_talk_154 rfl (iic k32_1) (Or.inr (c1i rfl)) rfl ?_
        refine ax_goto 100 dM_talk_157 (by decide) ?_
        exact ih (z2 + (1 : Int32)) h hf
    · refine ax_icmp_geT 160 dM_talk_105 (by decide) hc ?_
      refine ax_mask [true, true, false] rfl [some (va_rf (some y0)), some (.int y1), none] rfl ?_
      exact hk h hf
theorem w_M_talk_L60 {l : Launch} {E : EN} {R : Room} {B : (Nat × Nat) × (Nat × Nat)} {Qf : QF} {ρ : Type} {res : ρ} (hR1 : 5 ≤ R.frames) (hR2 : 320 ≤ R.locals) {y0 : Nat} {k : AH → Option (ρ)} (hk : ∀ (h : AH), k h = some res → AW l E mi_M_talk R B Qf 215 [some (va_rf (some y0)), none, none] [] h) : ∀ (n : Nat) (z1 : Int32) (h : AH), f_M_talk_L60 y0 k n z1 h = some res → AW l E mi_M_talk R B Qf 60 [some (va_rf (some y0)), some (.int z1), none] [] h := by
  intro n
  induction n with
  | zero => intro z1 h hf; cases hf
  | succ n ih =>
    intro z1 h hf
    rw [f_M_talk_L60] at hf
    refine ax_iload_n (i := 1) dM_talk_60 rfl rfl ?_
    refine ax_aload_n (i := 0) (some y0) dM_talk_61 rfl rfl ?_
    replace hf := bd1_s hf
    obtain ⟨x11, e_x11, hf⟩ := hf
    refine ax_getI fl_1043 rfl dM_talk_62 e_x11 ?_
    replace hf := ite_c hf
    rcases hf with ⟨hc, hf⟩ | ⟨hc, hf⟩
    · refine ax_icmp_gtT 215 dM_talk_65 (by decide) hc ?_
      refine ax_mask [true, false, true] rfl [some (va_rf (some y0)), none, none] rfl ?_
      exact hk h hf
    · refine ax_icmp_gtF 215 dM_talk_65 (by decide) hc ?_
      refine ax_iconst (0 : Int32) dM_talk_68 k32_0 ?_
      refine ax_istore_n (i := 2) [some (va_rf (some y0)), some (.int z1), some (.int (0 : Int32))] dM_talk_69 rfl (Nat.le_of_ble_eq_true rfl) (Or.inr (c1i rfl)) rfl ?_
      refine w_M_talk_L70 hR1 hR2 (fun h17 hf => ?_) FU (0 : Int32) h hf
      refine ax_iconst (0 : Int32) dM_talk_98 k32_0 ?_
      refine ax_istore_n (i := 2) [some (va_rf (some y0)), some (.int z1), some (.int (0 : Int32))] dM_talk_99 rfl (Nat.le_of_ble_eq_true rfl) (Or.inr (c1i rfl)) rfl ?_
      refine w_M_talk_L100 hR1 hR2 (fun h31 hf => ?_) FU (0 : Int32) h17 hf
      refine ax_aload_n (i := 0) (some y0) dM_talk_160 rfl rfl ?_
      replace hf := bd1_s hf
      obtain ⟨r32, e_r32, hf⟩ := hf
      refine ax_getR fl_1018 rfl dM_talk_161 e_r32 ?_
      refine ax_bipush (25 : Int32) dM_talk_164 k8_25 ?_
      refine ax_aload_n (i := 0) (some y0) dM_talk_166 rfl rfl ?_
      replace hf := bd1_s hf
      obtain ⟨x33, e_x33, hf⟩ := hf
      refine ax_getI fl_1015 rfl dM_talk_167 e_x33 ?_
      refine ax_imul dM_talk_170 ?_
      refine ax_iload_n (i := 1) dM_talk_171 rfl rfl ?_
      refine ax_iadd dM_talk_172 ?_
      refine ax_iload_n (i := 1) dM_talk_173 rfl rfl ?_
      replace hf := bd1_s hf
      obtain ⟨x40, hT, hf⟩ := hf
      have K : AW l E mi_M_talk R B Qf 208 [some (va_rf (some y0)), some (.int z1), none] [.int x40, .int (((25 : Int32) * x33) + z1), va_rf r32] h31 := by
        clear hT
        replace hf := bd1_s hf
        obtain ⟨a41, e_d, hf⟩ := hf
        subst e_d
        replace hf := bd1_s hf
        obtain ⟨h42, e_h42, hf⟩ := hf
        refine ax_zast dM_talk_208 e_h42 ?_
        refine ax_iinc (i := 1) (z1 + (1 : Int32)) [some (va_rf (some y0)), some (.int (z1 + (1 : Int32))), none] dM_talk_209 rfl (iic k32_1) (Or.inr (c1r rfl)) rfl ?_
        refine ax_goto 60 dM_talk_212 (by decide) ?_
        exact ih (z1 + (1 : Int32)) h42 hf
      replace hf := hT
      clear hT
      replace hf := ite_c hf
      rcases hf with ⟨hc, hf⟩ | ⟨hc, hf⟩
      · refine ax_if_neF 186 dM_talk_174 (by decide) hc ?_
        refine ax_aload_n (i := 0) (some y0) dM_talk_177 rfl rfl ?_
        replace hf := bd1_s hf
        obtain ⟨r37, e_r37, hf⟩ := hf
        refine ax_getR fl_1037 rfl dM_talk_178 e_r37 ?_
        refine ax_iconst (0 : Int32) dM_talk_181 k32_0 ?_
        replace hf := bd1_s hf
        obtain ⟨a38, e_d, hf⟩ := hf
        subst e_d
        replace hf := bd1_s hf
        obtain ⟨x39, e_x39, hf⟩ := hf
        refine ax_zald dM_talk_182 e_x39 ?_
        refine ax_goto 208 dM_talk_183 (by decide) ?_
        cases hf
        exact K
      · refine ax_if_neT 186 dM_talk_174 (by decide) hc ?_
        refine ax_aload_n (i := 0) (some y0) dM_talk_186 rfl rfl ?_
        replace hf := bd1_s hf
        obtain ⟨r34, e_r34, hf⟩ := hf
        refine ax_getR fl_1039 rfl dM_talk_187 e_r34 ?_
        refine ax_iconst (0 : Int32) dM_talk_190 k32_0 ?_
        replace hf := bd1_s hf
        obtain ⟨a35, e_d, hf⟩ := hf
        subst e_d
        replace hf := bd1_s hf
        obtain ⟨x36, e_x36, hf⟩ := hf
        refine ax_lald dM_talk_191 e_x36 ?_
        refine ax_iload_n (i := 1) dM_talk_192 rfl rfl ?_
        refine ax_iconst (1 : Int32) dM_talk_193 k32_1 ?_
        refine ax_isub dM_talk_194 ?_
        refine ax_lshr dM_talk_195 ?_
        refine ax_lconst (1 : Int64) dM_talk_196 kl_1 ?_
        refine ax_land dM_talk_197 ?_
        refine ax_lconst (1 : Int64) dM_talk_198 kl_1 ?_
        refine ax_lcmp dM_talk_199 ?_
        replace hf := ite_c hf
        rcases hf with ⟨hc, hf⟩ | ⟨hc, hf⟩
        · refine ax_if_neF 207 dM_talk_200 (by decide) hc ?_
          refine ax_iconst (1 : Int32) dM_talk_203 k32_1 ?_
          refine ax_goto 208 dM_talk_204 (by decide) ?_
          cases hf
          exact K
        · refine ax_if_neT 207 dM_talk_200 (by decide) hc ?_
          refine ax_iconst (0 : Int32) dM_talk_207 k32_0 ?_
          cases hf
          exact K
theorem v_M_talk {l : Launch} {E : EN} {R : Room} {B : (Nat × Nat) × (Nat × Nat)} {Qf : QF} {h0 : AH} {o : Nat} {r : Int32} {hF : AH} (hR1 : 5 ≤ R.frames) (hR2 : 320 ≤ R.locals) (Hr : ∀ (pc : Nat) (L : List (Option Value)), decode mi_M_talk.2.1 pc = .ok (.ireturn, 1) → AW l E mi_M_talk R B Qf pc L [.int r] hF) (hf : f_M_talk h0 o = some (r, hF)) : AW l E mi_M_talk R B Qf 0 [some (va_rf (some o)), none, none] [] h0 := by
  unfold f_M_talk at hf
  refine ax_aload_n (i := 0) (some o) dM_talk_0 rfl rfl ?_
  replace hf := bd1_s hf
  obtain ⟨h1, e_h1, hf⟩ := hf
  obtain ⟨k_e_h1, e_h1⟩ := cv_s e_h1
  refine ax_callV (As := []) (rest := []) (c_M_readPage e_h1) ml_1203 cm_M_readPage rfl k_e_h1 (Nat.le_trans (Nat.le_of_ble_eq_true rfl) hR1) (Nat.le_trans (Nat.le_of_ble_eq_true rfl) hR2) rfl rfl (Nat.le_of_ble_eq_true rfl) dM_talk_1 ?_
  refine ax_aload_n (i := 0) (some o) dM_talk_4 rfl rfl ?_
  replace hf := bd1_s hf
  obtain ⟨x2, e_x2, hf⟩ := hf
  refine ax_getI fl_1047 rfl dM_talk_5 e_x2 ?_
  replace hf := ite_c hf
  rcases hf with ⟨hc, hf⟩ | ⟨hc, hf⟩
  · refine ax_if_neF 14 dM_talk_8 (by decide) hc ?_
    refine ax_bipush (-103 : Int32) dM_talk_11 k8_m103 ?_
    cases hf
    exact Hr _ _ dM_talk_13
  · refine ax_if_neT 14 dM_talk_8 (by decide) hc ?_
    refine ax_aload_n (i := 0) (some o) dM_talk_14 rfl rfl ?_
    replace hf := bd1_s hf
    obtain ⟨x3, e_x3, hf⟩ := hf
    refine ax_getI fl_1043 rfl dM_talk_15 e_x3 ?_
    refine ax_bipush (24 : Int32) dM_talk_18 k8_24 ?_
    replace hf := ite_c hf
    rcases hf with ⟨hc, hf⟩ | ⟨hc, hf⟩
    · refine ax_icmp_gtT 30 dM_talk_20 (by decide) hc ?_
      refine ax_bipush (-102 : Int32) dM_talk_30 k8_m102 ?_
      cases hf
      exact Hr _ _ dM_talk_32
    · refine ax_icmp_gtF 30 dM_talk_20 (by decide) hc ?_
      refine ax_aload_n (i := 0) (some o) dM_talk_23 rfl rfl ?_
      replace hf := bd1_s hf
      obtain ⟨x4, e_x4, hf⟩ := hf
      obtain ⟨k_e_x4, e_x4⟩ := cv_s e_x4
      refine ax_callV (As := []) (rest := []) (c_M_isTwofold e_x4) ml_1238 cm_M_isTwofold rfl k_e_x4 (Nat.le_trans (Nat.le_of_ble_eq_true rfl) hR1) (Nat.le_trans (Nat.le_of_ble_eq_true rfl) hR2) rfl rfl (Nat.le_of_ble_eq_true rfl) dM_talk_24 ?_
      replace hf := ite_c hf
      rcases hf with ⟨hc, hf⟩ | ⟨hc, hf⟩
      · refine ax_if_eqT 33 dM_talk_27 (by decide) hc ?_
        refine ax_aload_n (i := 0) (some o) dM_talk_33 rfl rfl ?_
        replace hf := bd1_s hf
        obtain ⟨x5, e_x5, hf⟩ := hf
        refine ax_getI fl_1015 rfl dM_talk_34 e_x5 ?_
        refine ax_bipush (6 : Int32) dM_talk_37 k8_6 ?_
        replace hf := ite_c hf
        rcases hf with ⟨hc, hf⟩ | ⟨hc, hf⟩
        · refine ax_icmp_neF 45 dM_talk_39 (by decide) hc ?_
          refine ax_bipush (-104 : Int32) dM_talk_42 k8_m104 ?_
          cases hf
          exact Hr _ _ dM_talk_44
        · refine ax_icmp_neT 45 dM_talk_39 (by decide) hc ?_
          refine ax_aload_n (i := 0) (some o) dM_talk_45 rfl rfl ?_
          replace hf := bd1_s hf
          obtain ⟨r6, e_r6, hf⟩ := hf
          refine ax_getR fl_1016 rfl dM_talk_46 e_r6 ?_
          refine ax_aload_n (i := 0) (some o) dM_talk_49 rfl rfl ?_
          replace hf := bd1_s hf
          obtain ⟨x7, e_x7, hf⟩ := hf
          refine ax_getI fl_1015 rfl dM_talk_50 e_x7 ?_
          refine ax_aload_n (i := 0) (some o) dM_talk_53 rfl rfl ?_
          replace hf := bd1_s hf
          obtain ⟨x8, e_x8, hf⟩ := hf
          refine ax_getI fl_1043 rfl dM_talk_54 e_x8 ?_
          replace hf := bd1_s hf
          obtain ⟨a9, e_d, hf⟩ := hf
          subst e_d
          replace hf := bd1_s hf
          obtain ⟨h10, e_h10, hf⟩ := hf
          refine ax_iast dM_talk_57 e_h10 ?_
          refine ax_iconst (0 : Int32) dM_talk_58 k32_0 ?_
          refine ax_istore_n (i := 1) [some (va_rf (some o)), some (.int (0 : Int32)), none] dM_talk_59 rfl (Nat.le_of_ble_eq_true rfl) (Or.inr (c1r rfl)) rfl ?_
          refine w_M_talk_L60 hR1 hR2 (fun h43 hf => ?_) FU (0 : Int32) h10 hf
          refine ax_aload_n (i := 0) (some o) dM_talk_215 rfl rfl ?_
          refine ax_dup dM_talk_216 rfl ?_
          replace hf := bd1_s hf
          obtain ⟨x44, e_x44, hf⟩ := hf
          refine ax_getI fl_1015 rfl dM_talk_217 e_x44 ?_
          refine ax_iconst (1 : Int32) dM_talk_220 k32_1 ?_
          refine ax_iadd dM_talk_221 ?_
          replace hf := bd1_s hf
          obtain ⟨h45, e_h45, hf⟩ := hf
          refine ax_putI fw_1015 rfl rfl dM_talk_222 e_h45 ?_
          refine ax_aload_n (i := 0) (some o) dM_talk_225 rfl rfl ?_
          refine ax_iconst (0 : Int32) dM_talk_226 k32_0 ?_
          replace hf := bd1_s hf
          obtain ⟨h46, e_h46, hf⟩ := hf
          refine ax_putI fw_1013 rfl rfl dM_talk_227 e_h46 ?_
          refine ax_aload_n (i := 0) (some o) dM_talk_230 rfl rfl ?_
          replace hf := bd1_s hf
          obtain ⟨x47, e_x47, hf⟩ := hf
          refine ax_getI fl_1015 rfl dM_talk_231 e_x47 ?_
          refine ax_iconst (1 : Int32) dM_talk_234 k32_1 ?_
          refine ax_isub dM_talk_235 ?_
          cases hf
          exact Hr _ _ dM_talk_236
      · refine ax_if_eqF 33 dM_talk_27 (by decide) hc ?_
        refine ax_bipush (-102 : Int32) dM_talk_30 k8_m102 ?_
        cases hf
        exact Hr _ _ dM_talk_32
theorem c_M_talk {l : Launch} {E : EN} {h0 : AH} {o : Nat} {r : Int32} {hF : AH} (hf : f_M_talk h0 o = some (r, hF)) : AM l E 5 mi_M_talk [va_rf (some o)] h0 (some (.int r)) hF :=
  am_of2 [(va_rf (some o), false)] 2 ⟨cat_rf _, trivial⟩ rfl rfl (v_M_talk (Nat.le_refl _) (Nat.le_refl _) (fun pc L hd => ax_iret rfl hd rfl) hf)
theorem v_M_isTalk {l : Launch} {E : EN} {R : Room} {B : (Nat × Nat) × (Nat × Nat)} {Qf : QF} {h0 : AH} {o : Nat} {p1 : Int32} {r : Int32} (hR1 : 2 ≤ R.frames) (hR2 : 128 ≤ R.locals) (Hr : (r = 0 ∨ r = 1) → ∀ (pc : Nat) (L : List (Option Value)), decode mi_M_isTalk.2.1 pc = .ok (.ireturn, 1) → AW l E mi_M_isTalk R B Qf pc L [.int r] h0) (hf : f_M_isTalk h0 o p1 = some r) : AW l E mi_M_isTalk R B Qf 0 [some (va_rf (some o)), some (.int p1)] [] h0 := by
  unfold f_M_isTalk at hf
  refine ax_iload_n (i := 1) dM_isTalk_0 rfl rfl ?_
  refine ax_iconst (0 : Int32) dM_isTalk_1 k32_0 ?_
  refine ax_aload_n (i := 0) (some o) dM_isTalk_2 rfl rfl ?_
  replace hf := bd1_s hf
  obtain ⟨x1, e_x1, hf⟩ := hf
  refine ax_getI fl_1015 rfl dM_isTalk_3 e_x1 ?_
  refine ax_iconst (1 : Int32) dM_isTalk_6 k32_1 ?_
  refine ax_isub dM_isTalk_7 ?_
  replace hf := bd1_s hf
  obtain ⟨x2, e_x2, hf⟩ := hf
  refine ax_callS (As := [.int p1, .int (0 : Int32), .int (x1 - (1 : Int32))]) (rest := []) (c_M_in e_x2) ml_1215 cm_M_in (Nat.le_trans (Nat.le_of_ble_eq_true rfl) hR1) (Nat.le_trans (Nat.le_of_ble_eq_true rfl) hR2) rfl rfl (Nat.le_of_ble_eq_true rfl) dM_isTalk_8 ?_
  replace hf := ite_s hf
  obtain ⟨e_z, hf⟩ := hf
  cases hf
  exact Hr e_z _ _ dM_isTalk_11
theorem c_M_isTalk {l : Launch} {E : EN} {h0 : AH} {o : Nat} {p1 : Int32} {r : Int32} (hf : f_M_isTalk h0 o p1 = some r) : AM l E 2 mi_M_isTalk [va_rf (some o), .int p1] h0 (some (.int r)) h0 :=
  am_of2 [(va_rf (some o), false), (.int p1, false)] 0 ⟨cat_rf _, rfl, trivial⟩ rfl rfl (v_M_isTalk (Nat.le_refl _) (Nat.le_refl _) (fun hz pc L hd => ax_zret rfl hz hd rfl) hf)
theorem v_M_steps {l : Launch} {E : EN} {R : Room} {B : (Nat × Nat) × (Nat × Nat)} {Qf : QF} {h0 : AH} {o : Nat} {p1 : Int32} {r : Int32} (hR1 : 3 ≤ R.frames) (hR2 : 192 ≤ R.locals) (Hr : ∀ (pc : Nat) (L : List (Option Value)), decode mi_M_steps.2.1 pc = .ok (.ireturn, 1) → AW l E mi_M_steps R B Qf pc L [.int r] h0) (hf : f_M_steps h0 o p1 = some r) : AW l E mi_M_steps R B Qf 0 [some (va_rf (some o)), some (.int p1)] [] h0 := by
  unfold f_M_steps at hf
  refine ax_aload_n (i := 0) (some o) dM_steps_0 rfl rfl ?_
  refine ax_iload_n (i := 1) dM_steps_1 rfl rfl ?_
  replace hf := bd1_s hf
  obtain ⟨x1, e_x1, hf⟩ := hf
  obtain ⟨k_e_x1, e_x1⟩ := cv_s e_x1
  refine ax_callV (As := [.int p1]) (rest := []) (c_M_isTalk e_x1) ml_1253 cm_M_isTalk rfl k_e_x1 (Nat.le_trans (Nat.le_of_ble_eq_true rfl) hR1) (Nat.le_trans (Nat.le_of_ble_eq_true rfl) hR2) rfl rfl (Nat.le_of_ble_eq_true rfl) dM_steps_2 ?_
  replace hf := ite_c hf
  rcases hf with ⟨hc, hf⟩ | ⟨hc, hf⟩
  · refine ax_if_eqT 17 dM_steps_5 (by decide) hc ?_
    refine ax_bipush (-101 : Int32) dM_steps_17 k8_m101 ?_
    cases hf
    exact Hr _ _ dM_steps_19
  · refine ax_if_eqF 17 dM_steps_5 (by decide) hc ?_
    refine ax_aload_n (i := 0) (some o) dM_steps_8 rfl rfl ?_
    replace hf := bd1_s hf
    obtain ⟨r2, e_r2, hf⟩ := hf
    refine ax_getR fl_1016 rfl dM_steps_9 e_r2 ?_
    refine ax_iload_n (i := 1) dM_steps_12 rfl rfl ?_
    replace hf := bd1_s hf
    obtain ⟨a3, e_d, hf⟩ := hf
    subst e_d
    replace hf := bd1_s hf
    obtain ⟨x4, e_x4, hf⟩ := hf
    refine ax_iald dM_steps_13 e_x4 ?_
    refine ax_goto 19 dM_steps_14 (by decide) ?_
    cases hf
    exact Hr _ _ dM_steps_19
theorem c_M_steps {l : Launch} {E : EN} {h0 : AH} {o : Nat} {p1 : Int32} {r : Int32} (hf : f_M_steps h0 o p1 = some r) : AM l E 3 mi_M_steps [va_rf (some o), .int p1] h0 (some (.int r)) h0 :=
  am_of2 [(va_rf (some o), false), (.int p1, false)] 0 ⟨cat_rf _, rfl, trivial⟩ rfl rfl (v_M_steps (Nat.le_refl _) (Nat.le_refl _) (fun pc L hd => ax_iret rfl hd rfl) hf)
theorem v_M_isState {l : Launch} {E : EN} {R : Room} {B : (Nat × Nat) × (Nat × Nat)} {Qf : QF} {h0 : AH} {o : Nat} {p1 : Int32} {p2 : Int32} {r : Int32} (hR1 : 3 ≤ R.frames) (hR2 : 192 ≤ R.locals) (Hr : (r = 0 ∨ r = 1) → ∀ (pc : Nat) (L : List (Option Value)), decode mi_M_isState.2.1 pc = .ok (.ireturn, 1) → AW l E mi_M_isState R B Qf pc L [.int r] h0) (hf : f_M_isState h0 o p1 p2 = some r) : AW l E mi_M_isState R B Qf 0 [some (va_rf (some o)), some (.int p1), some (.int p2)] [] h0 := by
  unfold f_M_isState at hf
  refine ax_aload_n (i := 0) (some o) dM_isState_0 rfl rfl ?_
  refine ax_iload_n (i := 1) dM_isState_1 rfl rfl ?_
  replace hf := bd1_s hf
  obtain ⟨x1, e_x1, hf⟩ := hf
  obtain ⟨k_e_x1, e_x1⟩ := cv_s e_x1
  refine ax_callV (As := [.int p1]) (rest := []) (c_M_isTalk e_x1) ml_1253 cm_M_isTalk rfl k_e_x1 (Nat.le_trans (Nat.le_of_ble_eq_true rfl) hR1) (Nat.le_trans (Nat.le_of_ble_eq_true rfl) hR2) rfl rfl (Nat.le_of_ble_eq_true rfl) dM_isState_2 ?_
  replace hf := ite_c hf
  rcases hf with ⟨hc, hf⟩ | ⟨hc, hf⟩
  · refine ax_if_eqT 26 dM_isState_5 (by decide) hc ?_
    refine ax_iconst (0 : Int32) dM_isState_26 k32_0 ?_
    cases hf
    exact Hr (Or.inl rfl) _ _ dM_isState_27
  · refine ax_if_eqF 26 dM_isState_5 (by decide) hc ?_
    refine ax_iload_n (i := 2) dM_isState_8 rfl rfl ?_
    refine ax_iconst (0 : Int32) dM_isState_9 k32_0 ?_
    refine ax_aload_n (i := 0) (some o) dM_isState_10 rfl rfl ?_
    replace hf := bd1_s hf
    obtain ⟨r2, e_r2, hf⟩ := hf
    refine ax_getR fl_1016 rfl dM_isState_11 e_r2 ?_
    refine ax_iload_n (i := 1) dM_isState_14 rfl rfl ?_
    replace hf := bd1_s hf
    obtain ⟨a3, e_d, hf⟩ := hf
    subst e_d
    replace hf := bd1_s hf
    obtain ⟨x4, e_x4, hf⟩ := hf
    refine ax_iald dM_isState_15 e_x4 ?_
    replace hf := bd1_s hf
    obtain ⟨x5, e_x5, hf⟩ := hf
    refine ax_callS (As := [.int p2, .int (0 : Int32), .int x4]) (rest := []) (c_M_in e_x5) ml_1215 cm_M_in (Nat.le_trans (Nat.le_of_ble_eq_true rfl) hR1) (Nat.le_trans (Nat.le_of_ble_eq_true rfl) hR2) rfl rfl (Nat.le_of_ble_eq_true rfl) dM_isState_16 ?_
    replace hf := ite_c hf
    rcases hf with ⟨hc, hf⟩ | ⟨hc, hf⟩
    · refine ax_if_eqT 26 dM_isState_19 (by decide) hc ?_
      refine ax_iconst (0 : Int32) dM_isState_26 k32_0 ?_
      cases hf
      exact Hr (Or.inl rfl) _ _ dM_isState_27
    · refine ax_if_eqF 26 dM_isState_19 (by decide) hc ?_
      refine ax_iconst (1 : Int32) dM_isState_22 k32_1 ?_
      refine ax_goto 27 dM_isState_23 (by decide) ?_
      cases hf
      exact Hr (Or.inr rfl) _ _ dM_isState_27
theorem c_M_isState {l : Launch} {E : EN} {h0 : AH} {o : Nat} {p1 : Int32} {p2 : Int32} {r : Int32} (hf : f_M_isState h0 o p1 p2 = some r) : AM l E 3 mi_M_isState [va_rf (some o), .int p1, .int p2] h0 (some (.int r)) h0 :=
  am_of2 [(va_rf (some o), false), (.int p1, false), (.int p2, false)] 0 ⟨cat_rf _, rfl, rfl, trivial⟩ rfl rfl (v_M_isState (Nat.le_refl _) (Nat.le_refl _) (fun hz pc L hd => ax_zret rfl hz hd rfl) hf)
theorem v_M_next {l : Launch} {E : EN} {R : Room} {B : (Nat × Nat) × (Nat × Nat)} {Qf : QF} {h0 : AH} {o : Nat} {p1 : Int32} {p2 : Int32} {p3 : Int32} {p4 : Int32} {r : Int32} (hR1 : 4 ≤ R.frames) (hR2 : 256 ≤ R.locals) (Hr : ∀ (pc : Nat) (L : List (Option Value)), decode mi_M_next.2.1 pc = .ok (.ireturn, 1) → AW l E mi_M_next R B Qf pc L [.int r] h0) (hf : f_M_next h0 o p1 p2 p3 p4 = some r) : AW l E mi_M_next R B Qf 0 [some (va_rf (some o)), some (.int p1), some (.int p2), some (.int p3), some (.int p4)] [] h0 := by
  unfold f_M_next at hf
  refine ax_aload_n (i := 0) (some o) dM_next_0 rfl rfl ?_
  refine ax_iload_n (i := 1) dM_next_1 rfl rfl ?_
  refine ax_iload_n (i := 2) dM_next_2 rfl rfl ?_
  replace hf := bd1_s hf
  obtain ⟨x1, e_x1, hf⟩ := hf
  obtain ⟨k_e_x1, e_x1⟩ := cv_s e_x1
  refine ax_callV (As := [.int p1, .int p2]) (rest := []) (c_M_isState e_x1) ml_1261 cm_M_isState rfl k_e_x1 (Nat.le_trans (Nat.le_of_ble_eq_true rfl) hR1) (Nat.le_trans (Nat.le_of_ble_eq_true rfl) hR2) rfl rfl (Nat.le_of_ble_eq_true rfl) dM_next_3 ?_
  replace hf := ite_c hf
  rcases hf with ⟨hc, hf⟩ | ⟨hc, hf⟩
  · refine ax_if_neF 12 dM_next_6 (by decide) hc ?_
    refine ax_bipush (-101 : Int32) dM_next_9 k8_m101 ?_
    cases hf
    exact Hr _ _ dM_next_11
  · refine ax_if_neT 12 dM_next_6 (by decide) hc ?_
    refine ax_iload_n (i := 3) dM_next_12 rfl rfl ?_
    refine ax_iconst (0 : Int32) dM_next_13 k32_0 ?_
    refine ax_iconst (1 : Int32) dM_next_14 k32_1 ?_
    replace hf := bd1_s hf
    obtain ⟨x2, e_x2, hf⟩ := hf
    refine ax_callS (As := [.int p3, .int (0 : Int32), .int (1 : Int32)]) (rest := []) (c_M_in e_x2) ml_1215 cm_M_in (Nat.le_trans (Nat.le_of_ble_eq_true rfl) hR1) (Nat.le_trans (Nat.le_of_ble_eq_true rfl) hR2) rfl rfl (Nat.le_of_ble_eq_true rfl) dM_next_15 ?_
    replace hf := ite_c hf
    rcases hf with ⟨hc, hf⟩ | ⟨hc, hf⟩
    · refine ax_if_eqT 48 dM_next_18 (by decide) hc ?_
      refine ax_bipush (-102 : Int32) dM_next_48 k8_m102 ?_
      cases hf
      exact Hr _ _ dM_next_50
    · refine ax_if_eqF 48 dM_next_18 (by decide) hc ?_
      refine ax_iload (i := 4) dM_next_21 rfl ?_
      refine ax_iconst (0 : Int32) dM_next_23 k32_0 ?_
      refine ax_bipush (7 : Int32) dM_next_24 k8_7 ?_
      replace hf := bd1_s hf
      obtain ⟨x3, e_x3, hf⟩ := hf
      refine ax_callS (As := [.int p4, .int (0 : Int32), .int (7 : Int32)]) (rest := []) (c_M_in e_x3) ml_1215 cm_M_in (Nat.le_trans (Nat.le_of_ble_eq_true rfl) hR1) (Nat.le_trans (Nat.le_of_ble_eq_true rfl) hR2) rfl rfl (Nat.le_of_ble_eq_true rfl) dM_next_26 ?_
      replace hf := ite_c hf
      rcases hf with ⟨hc, hf⟩ | ⟨hc, hf⟩
      · refine ax_if_eqT 48 dM_next_29 (by decide) hc ?_
        refine ax_bipush (-102 : Int32) dM_next_48 k8_m102 ?_
        cases hf
        exact Hr _ _ dM_next_50
      · refine ax_if_eqF 48 dM_next_29 (by decide) hc ?_
        refine ax_aload_n (i := 0) (some o) dM_next_32 rfl rfl ?_
        replace hf := bd1_s hf
        obtain ⟨r4, e_r4, hf⟩ := hf
        refine ax_getR fl_1017 rfl dM_next_33 e_r4 ?_
        refine ax_iload_n (i := 1) dM_next_36 rfl rfl ?_
        refine ax_iload_n (i := 2) dM_next_37 rfl rfl ?_
        refine ax_iload_n (i := 3) dM_next_38 rfl rfl ?_
        refine ax_iload (i := 4) dM_next_39 rfl ?_
        replace hf := bd1_s hf
        obtain ⟨x5, e_x5, hf⟩ := hf
        refine ax_callS (As := [.int p1, .int p2, .int p3, .int p4]) (rest := [va_rf r4]) (c_M_place e_x5) ml_1246 cm_M_place (Nat.le_trans (Nat.le_of_ble_eq_true rfl) hR1) (Nat.le_trans (Nat.le_of_ble_eq_true rfl) hR2) rfl rfl (by simp only [List.map_cons, List.map_nil, List.sum_cons, List.sum_nil, cat_rf]; exact Nat.le_of_ble_eq_true rfl) dM_next_41 ?_
        replace hf := bd1_s hf
        obtain ⟨a6, e_d, hf⟩ := hf
        subst e_d
        replace hf := bd1_s hf
        obtain ⟨x7, e_x7, hf⟩ := hf
        refine ax_iald dM_next_44 e_x7 ?_
        refine ax_goto 50 dM_next_45 (by decide) ?_
        cases hf
        exact Hr _ _ dM_next_50
theorem c_M_next {l : Launch} {E : EN} {h0 : AH} {o : Nat} {p1 : Int32} {p2 : Int32} {p3 : Int32} {p4 : Int32} {r : Int32} (hf : f_M_next h0 o p1 p2 p3 p4 = some r) : AM l E 4 mi_M_next [va_rf (some o), .int p1, .int p2, .int p3, .int p4] h0 (some (.int r)) h0 :=
  am_of2 [(va_rf (some o), false), (.int p1, false), (.int p2, false), (.int p3, false), (.int p4, false)] 0 ⟨cat_rf _, rfl, rfl, rfl, rfl, trivial⟩ rfl rfl (v_M_next (Nat.le_refl _) (Nat.le_refl _) (fun pc L hd => ax_iret rfl hd rfl) hf)
theorem v_M_ends {l : Launch} {E : EN} {R : Room} {B : (Nat × Nat) × (Nat × Nat)} {Qf : QF} {h0 : AH} {o : Nat} {p1 : Int32} {p2 : Int32} {r : Int32} (hR1 : 4 ≤ R.frames) (hR2 : 256 ≤ R.locals) (Hr : ∀ (pc : Nat) (L : List (Option Value)), decode mi_M_ends.2.1 pc = .ok (.ireturn, 1) → AW l E mi_M_ends R B Qf pc L [.int r] h0) (hf : f_M_ends h0 o p1 p2 = some r) : AW l E mi_M_ends R B Qf 0 [some (va_rf (some o)), some (.int p1), some (.int p2)] [] h0 := by
  unfold f_M_ends at hf
  refine ax_aload_n (i := 0) (some o) dM_ends_0 rfl rfl ?_
  refine ax_iload_n (i := 1) dM_ends_1 rfl rfl ?_
  refine ax_iload_n (i := 2) dM_ends_2 rfl rfl ?_
  replace hf := bd1_s hf
  obtain ⟨x1, e_x1, hf⟩ := hf
  obtain ⟨k_e_x1, e_x1⟩ := cv_s e_x1
  refine ax_callV (As := [.int p1, .int p2]) (rest := []) (c_M_isState e_x1) ml_1261 cm_M_isState rfl k_e_x1 (Nat.le_trans (Nat.le_of_ble_eq_true rfl) hR1) (Nat.le_trans (Nat.le_of_ble_eq_true rfl) hR2) rfl rfl (Nat.le_of_ble_eq_true rfl) dM_ends_3 ?_
  replace hf := ite_c hf
  rcases hf with ⟨hc, hf⟩ | ⟨hc, hf⟩
  · refine ax_if_neF 14 dM_ends_6 (by decide) hc ?_
    refine ax_bipush (-101 : Int32) dM_ends_9 k8_m101 ?_
    refine ax_goto 33 dM_ends_11 (by decide) ?_
    cases hf
    exact Hr _ _ dM_ends_33
  · refine ax_if_neT 14 dM_ends_6 (by decide) hc ?_
    refine ax_aload_n (i := 0) (some o) dM_ends_14 rfl rfl ?_
    replace hf := bd1_s hf
    obtain ⟨r2, e_r2, hf⟩ := hf
    refine ax_getR fl_1018 rfl dM_ends_15 e_r2 ?_
    refine ax_bipush (25 : Int32) dM_ends_18 k8_25 ?_
    refine ax_iload_n (i := 1) dM_ends_20 rfl rfl ?_
    refine ax_imul dM_ends_21 ?_
    refine ax_iload_n (i := 2) dM_ends_22 rfl rfl ?_
    refine ax_iadd dM_ends_23 ?_
    replace hf := bd1_s hf
    obtain ⟨a3, e_d, hf⟩ := hf
    subst e_d
    replace hf := bd1_s hf
    obtain ⟨x4, e_x4, hf⟩ := hf
    refine ax_zald dM_ends_24 e_x4 ?_
    replace hf := ite_c hf
    rcases hf with ⟨hc, hf⟩ | ⟨hc, hf⟩
    · refine ax_if_eqT 32 dM_ends_25 (by decide) hc ?_
      refine ax_iconst (0 : Int32) dM_ends_32 k32_0 ?_
      cases hf
      exact Hr _ _ dM_ends_33
    · refine ax_if_eqF 32 dM_ends_25 (by decide) hc ?_
      refine ax_iconst (1 : Int32) dM_ends_28 k32_1 ?_
      refine ax_goto 33 dM_ends_29 (by decide) ?_
      cases hf
      exact Hr _ _ dM_ends_33
theorem c_M_ends {l : Launch} {E : EN} {h0 : AH} {o : Nat} {p1 : Int32} {p2 : Int32} {r : Int32} (hf : f_M_ends h0 o p1 p2 = some r) : AM l E 4 mi_M_ends [va_rf (some o), .int p1, .int p2] h0 (some (.int r)) h0 :=
  am_of2 [(va_rf (some o), false), (.int p1, false), (.int p2, false)] 0 ⟨cat_rf _, rfl, rfl, trivial⟩ rfl rfl (v_M_ends (Nat.le_refl _) (Nat.le_refl _) (fun pc L hd => ax_iret rfl hd rfl) hf)
theorem w_M_nowOf_L6 {l : Launch} {E : EN} {R : Room} {B : (Nat × Nat) × (Nat × Nat)} {Qf : QF} {h0 : AH} {r : Int32} (hR1 : 2 ≤ R.frames) (hR2 : 128 ≤ R.locals) (Hr : ∀ (pc : Nat) (L : List (Option Value)), decode mi_M_nowOf.2.1 pc = .ok (.ireturn, 1) → AW l E mi_M_nowOf R B Qf pc L [.int r] h0) {y0 : Nat} {y1 : Int32} {y2 : Int32} {y3 : Int32} : ∀ (n : Nat) (z4 : Int32) (z5 : Int32), f_M_nowOf_L6 h0 y0 y1 y2 y3 n z4 z5 = some r → AW l E mi_M_nowOf R B Qf 6 [some (va_rf (some y0)), some (.int y1), some (.int y2), some (.int y3), some (.int z4), some (.int z5)] [] h0 := by
  intro n
  induction n with
  | zero => intro z4 z5 hf; cases hf
  | succ n ih =>
    intro z4 z5 hf
    rw [f_M_nowOf_L6] at hf
    refine ax_iload (i := 5) dM_nowOf_6 rfl ?_
    refine ax_bipush (8 : Int32) dM_nowOf_8 k8_8 ?_
    replace hf := ite_c hf
    rcases hf with ⟨hc, hf⟩ | ⟨hc, hf⟩
    · refine ax_icmp_geF 49 dM_nowOf_10 (by decide) hc ?_
      refine ax_iload (i := 4) dM_nowOf_13 rfl ?_
      refine ax_aload_n (i := 0) (some y0) dM_nowOf_15 rfl rfl ?_
      replace hf := bd1_s hf
      obtain ⟨r1, e_r1, hf⟩ := hf
      refine ax_getR fl_1017 rfl dM_nowOf_16 e_r1 ?_
      refine ax_iload_n (i := 1) dM_nowOf_19 rfl rfl ?_
      refine ax_iload_n (i := 2) dM_nowOf_20 rfl rfl ?_
      refine ax_iload_n (i := 3) dM_nowOf_21 rfl rfl ?_
      refine ax_iload (i := 5) dM_nowOf_22 rfl ?_
      replace hf := bd1_s hf
      obtain ⟨x2, e_x2, hf⟩ := hf
      refine ax_callS (As := [.int y1, .int y2, .int y3, .int z5]) (rest := [va_rf r1, .int z4]) (c_M_place e_x2) ml_1246 cm_M_place (Nat.le_trans (Nat.le_of_ble_eq_true rfl) hR1) (Nat.le_trans (Nat.le_of_ble_eq_true rfl) hR2) rfl rfl (by simp only [List.map_cons, List.map_nil, List.sum_cons, List.sum_nil, cat_rf]; exact Nat.le_of_ble_eq_true rfl) dM_nowOf_24 ?_
      replace hf := bd1_s hf
      obtain ⟨a3, e_d, hf⟩ := hf
      subst e_d
      replace hf := bd1_s hf
      obtain ⟨x4, e_x4, hf⟩ := hf
      refine ax_iald dM_nowOf_27 e_x4 ?_
      refine ax_iconst (-1 : Int32) dM_nowOf_28 k32_m1 ?_
      replace hf := bd1_s hf
      obtain ⟨x5, hT, hf⟩ := hf
      have K : AW l E mi_M_nowOf R B Qf 40 [some (va_rf (some y0)), some (.int y1), some (.int y2), some (.int y3), none, some (.int z5)] [.int x5, .int z4] h0 := by
        clear hT
        refine ax_ior dM_nowOf_40 ?_
        replace hf := bd1_s hf
        obtain ⟨x6, e_x6, hf⟩ := hf
        refine ax_nmI (Option.some.inj e_x6) ?_
        refine ax_istore (i := 4) [some (va_rf (some y0)), some (.int y1), some (.int y2), some (.int y3), some (.int x6), some (.int z5)] dM_nowOf_41 (Nat.le_of_ble_eq_true rfl) (Or.inr (c1i rfl)) rfl ?_
        refine ax_iinc (i := 5) (z5 + (1 : Int32)) [some (va_rf (some y0)), some (.int y1), some (.int y2), some (.int y3), some (.int x6), some (.int (z5 + (1 : Int32)))] dM_nowOf_43 rfl (iic k32_1) (Or.inr (c1i rfl)) rfl ?_
        refine ax_goto 6 dM_nowOf_46 (by decide) ?_
        exact ih x6 (z5 + (1 : Int32)) hf
      replace hf := hT
      clear hT
      replace hf := ite_c hf
      rcases hf with ⟨hc, hf⟩ | ⟨hc, hf⟩
      · refine ax_icmp_neF 36 dM_nowOf_29 (by decide) hc ?_
        refine ax_iconst (0 : Int32) dM_nowOf_32 k32_0 ?_
        refine ax_goto 40 dM_nowOf_33 (by decide) ?_
        refine ax_mask [true, true, true, true, false, true] rfl [some (va_rf (some y0)), some (.int y1), some (.int y2), some (.int y3), none, some (.int z5)] rfl ?_
        cases hf
        exact K
      · refine ax_icmp_neT 36 dM_nowOf_29 (by decide) hc ?_
        refine ax_iconst (1 : Int32) dM_nowOf_36 k32_1 ?_
        refine ax_iload (i := 5) dM_nowOf_37 rfl ?_
        refine ax_ishl dM_nowOf_39 ?_
        refine ax_mask [true, true, true, true, false, true] rfl [some (va_rf (some y0)), some (.int y1), some (.int y2), some (.int y3), none, some (.int z5)] rfl ?_
        cases hf
        exact K
    · refine ax_icmp_geT 49 dM_nowOf_10 (by decide) hc ?_
      refine ax_iload (i := 4) dM_nowOf_49 rfl ?_
      cases hf
      exact Hr _ _ dM_nowOf_51
theorem v_M_nowOf {l : Launch} {E : EN} {R : Room} {B : (Nat × Nat) × (Nat × Nat)} {Qf : QF} {h0 : AH} {o : Nat} {p1 : Int32} {p2 : Int32} {p3 : Int32} {r : Int32} (hR1 : 2 ≤ R.frames) (hR2 : 128 ≤ R.locals) (Hr : ∀ (pc : Nat) (L : List (Option Value)), decode mi_M_nowOf.2.1 pc = .ok (.ireturn, 1) → AW l E mi_M_nowOf R B Qf pc L [.int r] h0) (hf : f_M_nowOf h0 o p1 p2 p3 = some r) : AW l E mi_M_nowOf R B Qf 0 [some (va_rf (some o)), some (.int p1), some (.int p2), some (.int p3), none, none] [] h0 := by
  unfold f_M_nowOf at hf
  refine ax_iconst (0 : Int32) dM_nowOf_0 k32_0 ?_
  refine ax_istore (i := 4) [some (va_rf (some o)), some (.int p1), some (.int p2), some (.int p3), some (.int (0 : Int32)), none] dM_nowOf_1 (Nat.le_of_ble_eq_true rfl) (Or.inr (c1i rfl)) rfl ?_
  refine ax_iconst (0 : Int32) dM_nowOf_3 k32_0 ?_
  refine ax_istore (i := 5) [some (va_rf (some o)), some (.int p1), some (.int p2), some (.int p3), some (.int (0 : Int32)), some (.int (0 : Int32))] dM_nowOf_4 (Nat.le_of_ble_eq_true rfl) (Or.inr (c1i rfl)) rfl ?_
  refine w_M_nowOf_L6 hR1 hR2 Hr FU (0 : Int32) (0 : Int32) hf
theorem c_M_nowOf {l : Launch} {E : EN} {h0 : AH} {o : Nat} {p1 : Int32} {p2 : Int32} {p3 : Int32} {r : Int32} (hf : f_M_nowOf h0 o p1 p2 p3 = some r) : AM l E 2 mi_M_nowOf [va_rf (some o), .int p1, .int p2, .int p3] h0 (some (.int r)) h0 :=
  am_of2 [(va_rf (some o), false), (.int p1, false), (.int p2, false), (.int p3, false)] 2 ⟨cat_rf _, rfl, rfl, rfl, trivial⟩ rfl rfl (v_M_nowOf (Nat.le_refl _) (Nat.le_refl _) (fun pc L hd => ax_iret rfl hd rfl) hf)
theorem w_M_usesOf_L5 {l : Launch} {E : EN} {R : Room} {B : (Nat × Nat) × (Nat × Nat)} {Qf : QF} {h0 : AH} {r : Int32} (hR1 : 3 ≤ R.frames) (hR2 : 192 ≤ R.locals) (Hr : ∀ (pc : Nat) (L : List (Option Value)), decode mi_M_usesOf.2.1 pc = .ok (.ireturn, 1) → AW l E mi_M_usesOf R B Qf pc L [.int r] h0) {y0 : Nat} {y1 : Int32} {y2 : Int32} : ∀ (n : Nat) (z3 : Int32) (z4 : Int32), f_M_usesOf_L5 h0 y0 y1 y2 n z3 z4 = some r → AW l E mi_M_usesOf R B Qf 5 [some (va_rf (some y0)), some (.int y1), some (.int y2), some (.int z3), some (.int z4)] [] h0 := by
  intro n
  induction n with
  | zero => intro z3 z4 hf; cases hf
  | succ n ih =>
    intro z3 z4 hf
    rw [f_M_usesOf_L5] at hf
    refine ax_iload (i := 4) dM_usesOf_5 rfl ?_
    refine ax_aload_n (i := 0) (some y0) dM_usesOf_7 rfl rfl ?_
    replace hf := bd1_s hf
    obtain ⟨r1, e_r1, hf⟩ := hf
    refine ax_getR fl_1016 rfl dM_usesOf_8 e_r1 ?_
    refine ax_iload_n (i := 1) dM_usesOf_11 rfl rfl ?_
    replace hf := bd1_s hf
    obtain ⟨a2, e_d, hf⟩ := hf
    subst e_d
    replace hf := bd1_s hf
    obtain ⟨x3, e_x3, hf⟩ := hf
    refine ax_iald dM_usesOf_12 e_x3 ?_
    replace hf := ite_c hf
    rcases hf with ⟨hc, hf⟩ | ⟨hc, hf⟩
    · refine ax_icmp_gtT 33 dM_usesOf_13 (by decide) hc ?_
      refine ax_iload_n (i := 3) dM_usesOf_33 rfl rfl ?_
      cases hf
      exact Hr _ _ dM_usesOf_34
    · refine ax_icmp_gtF 33 dM_usesOf_13 (by decide) hc ?_
      refine ax_iload_n (i := 3) dM_usesOf_16 rfl rfl ?_
      refine ax_aload_n (i := 0) (some y0) dM_usesOf_17 rfl rfl ?_
      refine ax_iload_n (i := 1) dM_usesOf_18 rfl rfl ?_
      refine ax_iload (i := 4) dM_usesOf_19 rfl ?_
      refine ax_iload_n (i := 2) dM_usesOf_21 rfl rfl ?_
      replace hf := bd1_s hf
      obtain ⟨x4, e_x4, hf⟩ := hf
      obtain ⟨k_e_x4, e_x4⟩ := cv_s e_x4
      refine ax_callV (As := [.int y1, .int z4, .int y2]) (rest := [.int z3]) (c_M_nowOf e_x4) ml_1277 cm_M_nowOf rfl k_e_x4 (Nat.le_trans (Nat.le_of_ble_eq_true rfl) hR1) (Nat.le_trans (Nat.le_of_ble_eq_true rfl) hR2) rfl rfl (Nat.le_of_ble_eq_true rfl) dM_usesOf_22 ?_
      refine ax_ior dM_usesOf_25 ?_
      replace hf := bd1_s hf
      obtain ⟨x5, e_x5, hf⟩ := hf
      refine ax_nmI (Option.some.inj e_x5) ?_
      refine ax_istore_n (i := 3) [some (va_rf (some y0)), some (.int y1), some (.int y2), some (.int x5), some (.int z4)] dM_usesOf_26 rfl (Nat.le_of_ble_eq_true rfl) (Or.inr (c1i rfl)) rfl ?_
      refine ax_iinc (i := 4) (z4 + (1 : Int32)) [some (va_rf (some y0)), some (.int y1), some (.int y2), some (.int x5), some (.int (z4 + (1 : Int32)))] dM_usesOf_27 rfl (iic k32_1) (Or.inr (c1i rfl)) rfl ?_
      refine ax_goto 5 dM_usesOf_30 (by decide) ?_
      exact ih x5 (z4 + (1 : Int32)) hf
theorem v_M_usesOf {l : Launch} {E : EN} {R : Room} {B : (Nat × Nat) × (Nat × Nat)} {Qf : QF} {h0 : AH} {o : Nat} {p1 : Int32} {p2 : Int32} {r : Int32} (hR1 : 3 ≤ R.frames) (hR2 : 192 ≤ R.locals) (Hr : ∀ (pc : Nat) (L : List (Option Value)), decode mi_M_usesOf.2.1 pc = .ok (.ireturn, 1) → AW l E mi_M_usesOf R B Qf pc L [.int r] h0) (hf : f_M_usesOf h0 o p1 p2 = some r) : AW l E mi_M_usesOf R B Qf 0 [some (va_rf (some o)), some (.int p1), some (.int p2), none, none] [] h0 := by
  unfold f_M_usesOf at hf
  refine ax_iconst (0 : Int32) dM_usesOf_0 k32_0 ?_
  refine ax_istore_n (i := 3) [some (va_rf (some o)), some (.int p1), some (.int p2), some (.int (0 : Int32)), none] dM_usesOf_1 rfl (Nat.le_of_ble_eq_true rfl) (Or.inr (c1i rfl)) rfl ?_
  refine ax_iconst (0 : Int32) dM_usesOf_2 k32_0 ?_
  refine ax_istore (i := 4) [some (va_rf (some o)), some (.int p1), some (.int p2), some (.int (0 : Int32)), some (.int (0 : Int32))] dM_usesOf_3 (Nat.le_of_ble_eq_true rfl) (Or.inr (c1i rfl)) rfl ?_
  refine w_M_usesOf_L5 hR1 hR2 Hr FU (0 : Int32) (0 : Int32) hf
theorem c_M_usesOf {l : Launch} {E : EN} {h0 : AH} {o : Nat} {p1 : Int32} {p2 : Int32} {r : Int32} (hf : f_M_usesOf h0 o p1 p2 = some r) : AM l E 3 mi_M_usesOf [va_rf (some o), .int p1, .int p2] h0 (some (.int r)) h0 :=
  am_of2 [(va_rf (some o), false), (.int p1, false), (.int p2, false)] 2 ⟨cat_rf _, rfl, rfl, trivial⟩ rfl rfl (v_M_usesOf (Nat.le_refl _) (Nat.le_refl _) (fun pc L hd => ax_iret rfl hd rfl) hf)
theorem v_M_uses {l : Launch} {E : EN} {R : Room} {B : (Nat × Nat) × (Nat × Nat)} {Qf : QF} {h0 : AH} {o : Nat} {p1 : Int32} {p2 : Int32} {r : Int32} (hR1 : 4 ≤ R.frames) (hR2 : 256 ≤ R.locals) (Hr : ∀ (pc : Nat) (L : List (Option Value)), decode mi_M_uses.2.1 pc = .ok (.ireturn, 1) → AW l E mi_M_uses R B Qf pc L [.int r] h0) (hf : f_M_uses h0 o p1 p2 = some r) : AW l E mi_M_uses R B Qf 0 [some (va_rf (some o)), some (.int p1), some (.int p2)] [] h0 := by
  unfold f_M_uses at hf
  refine ax_aload_n (i := 0) (some o) dM_uses_0 rfl rfl ?_
  refine ax_iload_n (i := 1) dM_uses_1 rfl rfl ?_
  replace hf := bd1_s hf
  obtain ⟨x1, e_x1, hf⟩ := hf
  obtain ⟨k_e_x1, e_x1⟩ := cv_s e_x1
  refine ax_callV (As := [.int p1]) (rest := []) (c_M_isTalk e_x1) ml_1253 cm_M_isTalk rfl k_e_x1 (Nat.le_trans (Nat.le_of_ble_eq_true rfl) hR1) (Nat.le_trans (Nat.le_of_ble_eq_true rfl) hR2) rfl rfl (Nat.le_of_ble_eq_true rfl) dM_uses_2 ?_
  replace hf := ite_c hf
  rcases hf with ⟨hc, hf⟩ | ⟨hc, hf⟩
  · refine ax_if_neF 13 dM_uses_5 (by decide) hc ?_
    refine ax_bipush (-101 : Int32) dM_uses_8 k8_m101 ?_
    refine ax_goto 33 dM_uses_10 (by decide) ?_
    cases hf
    exact Hr _ _ dM_uses_33
  · refine ax_if_neT 13 dM_uses_5 (by decide) hc ?_
    refine ax_iload_n (i := 2) dM_uses_13 rfl rfl ?_
    refine ax_iconst (0 : Int32) dM_uses_14 k32_0 ?_
    refine ax_iconst (1 : Int32) dM_uses_15 k32_1 ?_
    replace hf := bd1_s hf
    obtain ⟨x2, e_x2, hf⟩ := hf
    refine ax_callS (As := [.int p2, .int (0 : Int32), .int (1 : Int32)]) (rest := []) (c_M_in e_x2) ml_1215 cm_M_in (Nat.le_trans (Nat.le_of_ble_eq_true rfl) hR1) (Nat.le_trans (Nat.le_of_ble_eq_true rfl) hR2) rfl rfl (Nat.le_of_ble_eq_true rfl) dM_uses_16 ?_
    replace hf := ite_c hf
    rcases hf with ⟨hc, hf⟩ | ⟨hc, hf⟩
    · refine ax_if_eqT 31 dM_uses_19 (by decide) hc ?_
      refine ax_bipush (-102 : Int32) dM_uses_31 k8_m102 ?_
      cases hf
      exact Hr _ _ dM_uses_33
    · refine ax_if_eqF 31 dM_uses_19 (by decide) hc ?_
      refine ax_aload_n (i := 0) (some o) dM_uses_22 rfl rfl ?_
      refine ax_iload_n (i := 1) dM_uses_23 rfl rfl ?_
      refine ax_iload_n (i := 2) dM_uses_24 rfl rfl ?_
      replace hf := bd1_s hf
      obtain ⟨x3, e_x3, hf⟩ := hf
      obtain ⟨k_e_x3, e_x3⟩ := cv_s e_x3
      refine ax_callV (As := [.int p1, .int p2]) (rest := []) (c_M_usesOf e_x3) ml_1273 cm_M_usesOf rfl k_e_x3 (Nat.le_trans (Nat.le_of_ble_eq_true rfl) hR1) (Nat.le_trans (Nat.le_of_ble_eq_true rfl) hR2) rfl rfl (Nat.le_of_ble_eq_true rfl) dM_uses_25 ?_
      refine ax_goto 33 dM_uses_28 (by decide) ?_
      cases hf
      exact Hr _ _ dM_uses_33
theorem c_M_uses {l : Launch} {E : EN} {h0 : AH} {o : Nat} {p1 : Int32} {p2 : Int32} {r : Int32} (hf : f_M_uses h0 o p1 p2 = some r) : AM l E 4 mi_M_uses [va_rf (some o), .int p1, .int p2] h0 (some (.int r)) h0 :=
  am_of2 [(va_rf (some o), false), (.int p1, false), (.int p2, false)] 0 ⟨cat_rf _, rfl, rfl, trivial⟩ rfl rfl (v_M_uses (Nat.le_refl _) (Nat.le_refl _) (fun pc L hd => ax_iret rfl hd rfl) hf)
theorem w_M_same_L2 {l : Launch} {E : EN} {R : Room} {B : (Nat × Nat) × (Nat × Nat)} {Qf : QF} {hF : AH} (hR1 : 1 ≤ R.frames) (hR2 : 64 ≤ R.locals) (Hr : ∀ (pc : Nat) (L : List (Option Value)), decode mi_M_same.2.1 pc = .ok (.return_, 1) → AW l E mi_M_same R B Qf pc L [] hF) {y0 : Nat} : ∀ (n : Nat) (z1 : Int32) (h : AH), f_M_same_L2 y0 n z1 h = some hF → AW l E mi_M_same R B Qf 2 [some (va_rf (some y0)), some (.int z1)] [] h := by
  intro n
  induction n with
  | zero => intro z1 h hf; cases hf
  | succ n ih =>
    intro z1 h hf
    rw [f_M_same_L2] at hf
    refine ax_iload_n (i := 1) dM_same_2 rfl rfl ?_
    refine ax_bipush (8 : Int32) dM_same_3 k8_8 ?_
    replace hf := ite_c hf
    rcases hf with ⟨hc, hf⟩ | ⟨hc, hf⟩
    · refine ax_icmp_geF 28 dM_same_5 (by decide) hc ?_
      refine ax_aload_n (i := 0) (some y0) dM_same_8 rfl rfl ?_
      replace hf := bd1_s hf
      obtain ⟨r1, e_r1, hf⟩ := hf
      refine ax_getR fl_1056 rfl dM_same_9 e_r1 ?_
      refine ax_iload_n (i := 1) dM_same_12 rfl rfl ?_
      refine ax_iload_n (i := 1) dM_same_13 rfl rfl ?_
      replace hf := bd1_s hf
      obtain ⟨a2, e_d, hf⟩ := hf
      subst e_d
      replace hf := bd1_s hf
      obtain ⟨h3, e_h3, hf⟩ := hf
      refine ax_iast dM_same_14 e_h3 ?_
      refine ax_aload_n (i := 0) (some y0) dM_same_15 rfl rfl ?_
      replace hf := bd1_s hf
      obtain ⟨r4, e_r4, hf⟩ := hf
      refine ax_getR fl_1057 rfl dM_same_16 e_r4 ?_
      refine ax_iload_n (i := 1) dM_same_19 rfl rfl ?_
      refine ax_iload_n (i := 1) dM_same_20 rfl rfl ?_
      replace hf := bd1_s hf
      obtain ⟨a5, e_d, hf⟩ := hf
      subst e_d
      replace hf := bd1_s hf
      obtain ⟨h6, e_h6, hf⟩ := hf
      refine ax_iast dM_same_21 e_h6 ?_
      refine ax_iinc (i := 1) (z1 + (1 : Int32)) [some (va_rf (some y0)), some (.int (z1 + (1 : Int32)))] dM_same_22 rfl (iic k32_1) (Or.inr (c1r rfl)) rfl ?_
      refine ax_goto 2 dM_same_25 (by decide) ?_
      exact ih (z1 + (1 : Int32)) h6 hf
    · refine ax_icmp_geT 28 dM_same_5 (by decide) hc ?_
      cases hf
      exact Hr _ _ dM_same_28
theorem v_M_same {l : Launch} {E : EN} {R : Room} {B : (Nat × Nat) × (Nat × Nat)} {Qf : QF} {h0 : AH} {o : Nat} {hF : AH} (hR1 : 1 ≤ R.frames) (hR2 : 64 ≤ R.locals) (Hr : ∀ (pc : Nat) (L : List (Option Value)), decode mi_M_same.2.1 pc = .ok (.return_, 1) → AW l E mi_M_same R B Qf pc L [] hF) (hf : f_M_same h0 o = some hF) : AW l E mi_M_same R B Qf 0 [some (va_rf (some o)), none] [] h0 := by
  unfold f_M_same at hf
  refine ax_iconst (0 : Int32) dM_same_0 k32_0 ?_
  refine ax_istore_n (i := 1) [some (va_rf (some o)), some (.int (0 : Int32))] dM_same_1 rfl (Nat.le_of_ble_eq_true rfl) (Or.inr (c1r rfl)) rfl ?_
  refine w_M_same_L2 hR1 hR2 Hr FU (0 : Int32) h0 hf
theorem c_M_same {l : Launch} {E : EN} {h0 : AH} {o : Nat} {hF : AH} (hf : f_M_same h0 o = some hF) : AM l E 1 mi_M_same [va_rf (some o)] h0 none hF :=
  am_of2 [(va_rf (some o), false)] 1 ⟨cat_rf _, trivial⟩ rfl rfl (v_M_same (Nat.le_refl _) (Nat.le_refl _) (fun pc L hd => ax_vret rfl hd rfl) hf)
theorem w_M_restart_L7 {l : Launch} {E : EN} {R : Room} {B : (Nat × Nat) × (Nat × Nat)} {Qf : QF} {hF : AH} (hR1 : 1 ≤ R.frames) (hR2 : 64 ≤ R.locals) (Hr : ∀ (pc : Nat) (L : List (Option Value)), decode mi_M_restart.2.1 pc = .ok (.return_, 1) → AW l E mi_M_restart R B Qf pc L [] hF) {y0 : Nat} : ∀ (n : Nat) (z1 : Int32) (h : AH), f_M_restart_L7 y0 n z1 h = some hF → AW l E mi_M_restart R B Qf 7 [some (va_rf (some y0)), some (.int z1)] [] h := by
  intro n
  induction n with
  | zero => intro z1 h hf; cases hf
  | succ n ih =>
    intro z1 h hf
    rw [f_M_restart_L7] at hf
    refine ax_iload_n (i := 1) dM_restart_7 rfl rfl ?_
    refine ax_sipush (16384 : Int32) dM_restart_8 k16_16384 ?_
    replace hf := ite_c hf
    rcases hf with ⟨hc, hf⟩ | ⟨hc, hf⟩
    · refine ax_icmp_geF 27 dM_restart_11 (by decide) hc ?_
      refine ax_aload_n (i := 0) (some y0) dM_restart_14 rfl rfl ?_
      replace hf := bd1_s hf
      obtain ⟨r2, e_r2, hf⟩ := hf
      refine ax_getR fl_1055 rfl dM_restart_15 e_r2 ?_
      refine ax_iload_n (i := 1) dM_restart_18 rfl rfl ?_
      refine ax_iconst (0 : Int32) dM_restart_19 k32_0 ?_
      replace hf := bd1_s hf
      obtain ⟨a3, e_d, hf⟩ := hf
      subst e_d
      replace hf := bd1_s hf
      obtain ⟨h4, e_h4, hf⟩ := hf
      refine ax_iast dM_restart_20 e_h4 ?_
      refine ax_iinc (i := 1) (z1 + (1 : Int32)) [some (va_rf (some y0)), some (.int (z1 + (1 : Int32)))] dM_restart_21 rfl (iic k32_1) (Or.inr (c1r rfl)) rfl ?_
      refine ax_goto 7 dM_restart_24 (by decide) ?_
      exact ih (z1 + (1 : Int32)) h4 hf
    · refine ax_icmp_geT 27 dM_restart_11 (by decide) hc ?_
      cases hf
      exact Hr _ _ dM_restart_27
theorem v_M_restart {l : Launch} {E : EN} {R : Room} {B : (Nat × Nat) × (Nat × Nat)} {Qf : QF} {h0 : AH} {o : Nat} {hF : AH} (hR1 : 1 ≤ R.frames) (hR2 : 64 ≤ R.locals) (Hr : ∀ (pc : Nat) (L : List (Option Value)), decode mi_M_restart.2.1 pc = .ok (.return_, 1) → AW l E mi_M_restart R B Qf pc L [] hF) (hf : f_M_restart h0 o = some hF) : AW l E mi_M_restart R B Qf 0 [some (va_rf (some o)), none] [] h0 := by
  unfold f_M_restart at hf
  refine ax_aload_n (i := 0) (some o) dM_restart_0 rfl rfl ?_
  refine ax_iconst (0 : Int32) dM_restart_1 k32_0 ?_
  replace hf := bd1_s hf
  obtain ⟨h1, e_h1, hf⟩ := hf
  refine ax_putI fw_1051 rfl rfl dM_restart_2 e_h1 ?_
  refine ax_iconst (0 : Int32) dM_restart_5 k32_0 ?_
  refine ax_istore_n (i := 1) [some (va_rf (some o)), some (.int (0 : Int32))] dM_restart_6 rfl (Nat.le_of_ble_eq_true rfl) (Or.inr (c1r rfl)) rfl ?_
  refine w_M_restart_L7 hR1 hR2 Hr FU (0 : Int32) h1 hf
theorem c_M_restart {l : Launch} {E : EN} {h0 : AH} {o : Nat} {hF : AH} (hf : f_M_restart h0 o = some hF) : AM l E 1 mi_M_restart [va_rf (some o)] h0 none hF :=
  am_of2 [(va_rf (some o), false)] 1 ⟨cat_rf _, trivial⟩ rfl rfl (v_M_restart (Nat.le_refl _) (Nat.le_refl _) (fun pc L hd => ax_vret rfl hd rfl) hf)
theorem w_M_isNew_L12 {l : Launch} {E : EN} {R : Room} {B : (Nat × Nat) × (Nat × Nat)} {Qf : QF} {h0 : AH} {r : Int32} {hF : AH} (hR1 : 1 ≤ R.frames) (hR2 : 64 ≤ R.locals) (Hr : (r = 0 ∨ r = 1) → ∀ (pc : Nat) (L : List (Option Value)), decode mi_M_isNew.2.1 pc = .ok (.ireturn, 1) → AW l E mi_M_isNew R B Qf pc L [.int r] hF) {y0 : Nat} {y1 : Int32} {y2 : Int32} {y3 : Int32} {k : Int32 → Option (Int32 × AH)} (hk : ∀ (z4 : Int32), k z4 = some (r, hF) → AW l E mi_M_isNew R B Qf 55 [some (va_rf (some y0)), some (.int y1), some (.int y2), some (.int y3), some (.int z4)] [] h0) : ∀ (n : Nat) (z4 : Int32), f_M_isNew_L12 h0 y0 y1 y2 y3 k n z4 = some (r, hF) → AW l E mi_M_isNew R B Qf 12 [some (va_rf (some y0)), some (.int y1), some (.int y2), some (.int y3), some (.int z4)] [] h0 := by
  intro n
  induction n with
  | zero => intro z4 hf; cases hf
  | succ n ih =>
    intro z4 hf
    rw [f_M_isNew_L12] at hf
    refine ax_aload_n (i := 0) (some y0) dM_isNew_12 rfl rfl ?_
    replace hf := bd1_s hf
    obtain ⟨r2, e_r2, hf⟩ := hf
    refine ax_getR fl_1055 rfl dM_isNew_13 e_r2 ?_
    refine ax_iload (i := 4) dM_isNew_16 rfl ?_
    replace hf := bd1_s hf
    obtain ⟨a3, e_d, hf⟩ := hf
    subst e_d
    replace hf := bd1_s hf
    obtain ⟨x4, e_x4, hf⟩ := hf
    refine ax_iald dM_isNew_18 e_x4 ?_
    replace hf := ite_c hf
    rcases hf with ⟨hc, hf⟩ | ⟨hc, hf⟩
    · refine ax_if_eqT 55 dM_isNew_19 (by decide) hc ?_
      exact hk z4 hf
    · refine ax_if_eqF 55 dM_isNew_19 (by decide) hc ?_
      refine ax_aload_n (i := 0) (some y0) dM_isNew_22 rfl rfl ?_
      replace hf := bd1_s hf
      obtain ⟨r5, e_r5, hf⟩ := hf
      refine ax_getR fl_1052 rfl dM_isNew_23 e_r5 ?_
      refine ax_aload_n (i := 0) (some y0) dM_isNew_26 rfl rfl ?_
      replace hf := bd1_s hf
      obtain ⟨r6, e_r6, hf⟩ := hf
      refine ax_getR fl_1055 rfl dM_isNew_27 e_r6 ?_
      refine ax_iload (i := 4) dM_isNew_30 rfl ?_
      replace hf := bd1_s hf
      obtain ⟨a7, e_d, hf⟩ := hf
      subst e_d
      replace hf := bd1_s hf
      obtain ⟨x8, e_x8, hf⟩ := hf
      refine ax_iald dM_isNew_32 e_x8 ?_
      refine ax_iconst (1 : Int32) dM_isNew_33 k32_1 ?_
      refine ax_isub dM_isNew_34 ?_
      replace hf := bd1_s hf
      obtain ⟨a9, e_d, hf⟩ := hf
      subst e_d
      replace hf := bd1_s hf
      obtain ⟨x10, e_x10, hf⟩ := hf
      refine ax_iald dM_isNew_35 e_x10 ?_
      refine ax_iload_n (i := 1) dM_isNew_36 rfl rfl ?_
      replace hf := ite_c hf
      rcases hf with ⟨hc, hf⟩ | ⟨hc, hf⟩
      · refine ax_icmp_neF 42 dM_isNew_37 (by decide) hc ?_
        refine ax_iconst (1 : Int32) dM_isNew_40 k32_1 ?_
        cases hf
        exact Hr (Or.inr rfl) _ _ dM_isNew_41
      · refine ax_icmp_neT 42 dM_isNew_37 (by decide) hc ?_
        refine ax_iload (i := 4) dM_isNew_42 rfl ?_
        refine ax_iconst (1 : Int32) dM_isNew_44 k32_1 ?_
        refine ax_iadd dM_isNew_45 ?_
        refine ax_sipush (16384 : Int32) dM_isNew_46 k16_16384 ?_
        refine ax_irem dM_isNew_49 (by decide) ?_
        replace hf := bd1_s hf
        obtain ⟨x11, e_x11, hf⟩ := hf
        refine ax_nmI (Option.some.inj e_x11) ?_
        refine ax_istore (i := 4) [some (va_rf (some y0)), some (.int y1), some (.int y2), some (.int y3), some (.int x11)] dM_isNew_50 (Nat.le_of_ble_eq_true rfl) (Or.inr (c1i rfl)) rfl ?_
        refine ax_goto 12 dM_isNew_52 (by decide) ?_
        exact ih x11 hf
theorem v_M_isNew {l : Launch} {E : EN} {R : Room} {B : (Nat × Nat) × (Nat × Nat)} {Qf : QF} {h0 : AH} {o : Nat} {p1 : Int32} {p2 : Int32} {p3 : Int32} {r : Int32} {hF : AH} (hR1 : 1 ≤ R.frames) (hR2 : 64 ≤ R.locals) (Hr : (r = 0 ∨ r = 1) → ∀ (pc : Nat) (L : List (Option Value)), decode mi_M_isNew.2.1 pc = .ok (.ireturn, 1) → AW l E mi_M_isNew R B Qf pc L [.int r] hF) (hf : f_M_isNew h0 o p1 p2 p3 = some (r, hF)) : AW l E mi_M_isNew R B Qf 0 [some (va_rf (some o)), some (.int p1), some (.int p2), some (.int p3), none] [] h0 := by
  unfold f_M_isNew at hf
  refine ax_iload_n (i := 1) dM_isNew_0 rfl rfl ?_
  refine ax_ldc w_1301 dM_isNew_1 ?_
  refine ax_imul dM_isNew_3 ?_
  refine ax_iconst (4 : Int32) dM_isNew_4 k32_4 ?_
  refine ax_iushr dM_isNew_5 ?_
  refine ax_sipush (16384 : Int32) dM_isNew_6 k16_16384 ?_
  refine ax_irem dM_isNew_9 (by decide) ?_
  replace hf := bd1_s hf
  obtain ⟨x1, e_x1, hf⟩ := hf
  refine ax_nmI (Option.some.inj e_x1) ?_
  refine ax_istore (i := 4) [some (va_rf (some o)), some (.int p1), some (.int p2), some (.int p3), some (.int x1)] dM_isNew_10 (Nat.le_of_ble_eq_true rfl) (Or.inr (c1i rfl)) rfl ?_
  refine w_M_isNew_L12 hR1 hR2 Hr (fun x12 hf => ?_) FU x1 hf
  refine ax_aload_n (i := 0) (some o) dM_isNew_55 rfl rfl ?_
  replace hf := bd1_s hf
  obtain ⟨x13, e_x13, hf⟩ := hf
  refine ax_getI fl_1051 rfl dM_isNew_56 e_x13 ?_
  refine ax_sipush (4000 : Int32) dM_isNew_59 k16_4000 ?_
  replace hf := ite_c hf
  rcases hf with ⟨hc, hf⟩ | ⟨hc, hf⟩
  · refine ax_icmp_neF 67 dM_isNew_62 (by decide) hc ?_
    refine ax_iconst (0 : Int32) dM_isNew_65 k32_0 ?_
    cases hf
    exact Hr (Or.inl rfl) _ _ dM_isNew_66
  · refine ax_icmp_neT 67 dM_isNew_62 (by decide) hc ?_
    refine ax_aload_n (i := 0) (some o) dM_isNew_67 rfl rfl ?_
    replace hf := bd1_s hf
    obtain ⟨r14, e_r14, hf⟩ := hf
    refine ax_getR fl_1052 rfl dM_isNew_68 e_r14 ?_
    refine ax_aload_n (i := 0) (some o) dM_isNew_71 rfl rfl ?_
    replace hf := bd1_s hf
    obtain ⟨x15, e_x15, hf⟩ := hf
    refine ax_getI fl_1051 rfl dM_isNew_72 e_x15 ?_
    refine ax_iload_n (i := 1) dM_isNew_75 rfl rfl ?_
    replace hf := bd1_s hf
    obtain ⟨a16, e_d, hf⟩ := hf
    subst e_d
    replace hf := bd1_s hf
    obtain ⟨h17, e_h17, hf⟩ := hf
    refine ax_iast dM_isNew_76 e_h17 ?_
    refine ax_aload_n (i := 0) (some o) dM_isNew_77 rfl rfl ?_
    replace hf := bd1_s hf
    obtain ⟨r18, e_r18, hf⟩ := hf
    refine ax_getR fl_1053 rfl dM_isNew_78 e_r18 ?_
    refine ax_aload_n (i := 0) (some o) dM_isNew_81 rfl rfl ?_
    replace hf := bd1_s hf
    obtain ⟨x19, e_x19, hf⟩ := hf
    refine ax_getI fl_1051 rfl dM_isNew_82 e_x19 ?_
    refine ax_iload_n (i := 2) dM_isNew_85 rfl rfl ?_
    replace hf := bd1_s hf
    obtain ⟨a20, e_d, hf⟩ := hf
    subst e_d
    replace hf := bd1_s hf
    obtain ⟨h21, e_h21, hf⟩ := hf
    refine ax_iast dM_isNew_86 e_h21 ?_
    refine ax_aload_n (i := 0) (some o) dM_isNew_87 rfl rfl ?_
    replace hf := bd1_s hf
    obtain ⟨r22, e_r22, hf⟩ := hf
    refine ax_getR fl_1054 rfl dM_isNew_88 e_r22 ?_
    refine ax_aload_n (i := 0) (some o) dM_isNew_91 rfl rfl ?_
    replace hf := bd1_s hf
    obtain ⟨x23, e_x23, hf⟩ := hf
    refine ax_getI fl_1051 rfl dM_isNew_92 e_x23 ?_
    refine ax_iload_n (i := 3) dM_isNew_95 rfl rfl ?_
    replace hf := bd1_s hf
    obtain ⟨a24, e_d, hf⟩ := hf
    subst e_d
    replace hf := bd1_s hf
    obtain ⟨h25, e_h25, hf⟩ := hf
    refine ax_iast dM_isNew_96 e_h25 ?_
    refine ax_aload_n (i := 0) (some o) dM_isNew_97 rfl rfl ?_
    refine ax_dup dM_isNew_98 rfl ?_
    replace hf := bd1_s hf
    obtain ⟨x26, e_x26, hf⟩ := hf
    refine ax_getI fl_1051 rfl dM_isNew_99 e_x26 ?_
    refine ax_iconst (1 : Int32) dM_isNew_102 k32_1 ?_
    refine ax_iadd dM_isNew_103 ?_
    replace hf := bd1_s hf
    obtain ⟨h27, e_h27, hf⟩ := hf
    refine ax_putI fw_1051 rfl rfl dM_isNew_104 e_h27 ?_
    refine ax_aload_n (i := 0) (some o) dM_isNew_107 rfl rfl ?_
    replace hf := bd1_s hf
    obtain ⟨r28, e_r28, hf⟩ := hf
    refine ax_getR fl_1055 rfl dM_isNew_108 e_r28 ?_
    refine ax_iload (i := 4) dM_isNew_111 rfl ?_
    refine ax_aload_n (i := 0) (some o) dM_isNew_113 rfl rfl ?_
    replace hf := bd1_s hf
    obtain ⟨x29, e_x29, hf⟩ := hf
    refine ax_getI fl_1051 rfl dM_isNew_114 e_x29 ?_
    replace hf := bd1_s hf
    obtain ⟨a30, e_d, hf⟩ := hf
    subst e_d
    replace hf := bd1_s hf
    obtain ⟨h31, e_h31, hf⟩ := hf
    refine ax_iast dM_isNew_117 e_h31 ?_
    refine ax_iconst (1 : Int32) dM_isNew_118 k32_1 ?_
    cases hf
    exact Hr (Or.inr rfl) _ _ dM_isNew_119
theorem c_M_isNew {l : Launch} {E : EN} {h0 : AH} {o : Nat} {p1 : Int32} {p2 : Int32} {p3 : Int32} {r : Int32} {hF : AH} (hf : f_M_isNew h0 o p1 p2 p3 = some (r, hF)) : AM l E 1 mi_M_isNew [va_rf (some o), .int p1, .int p2, .int p3] h0 (some (.int r)) hF :=
  am_of2 [(va_rf (some o), false), (.int p1, false), (.int p2, false), (.int p3, false)] 1 ⟨cat_rf _, rfl, rfl, rfl, trivial⟩ rfl rfl (v_M_isNew (Nat.le_refl _) (Nat.le_refl _) (fun hz pc L hd => ax_zret rfl hz hd rfl) hf)
theorem v_M_saysOf {l : Launch} {E : EN} {R : Room} {B : (Nat × Nat) × (Nat × Nat)} {Qf : QF} {h0 : AH} {o : Nat} {p1 : Int32} {p2 : Int32} {p3 : Int32} {r : Int32} (hR1 : 2 ≤ R.frames) (hR2 : 128 ≤ R.locals) (Hr : ∀ (pc : Nat) (L : List (Option Value)), decode mi_M_saysOf.2.1 pc = .ok (.ireturn, 1) → AW l E mi_M_saysOf R B Qf pc L [.int r] h0) (hf : f_M_saysOf h0 o p1 p2 p3 = some r) : AW l E mi_M_saysOf R B Qf 0 [some (va_rf (some o)), some (.int p1), some (.int p2), some (.int p3)] [] h0 := by
  unfold f_M_saysOf at hf
  refine ax_aload_n (i := 0) (some o) dM_saysOf_0 rfl rfl ?_
  replace hf := bd1_s hf
  obtain ⟨r1, e_r1, hf⟩ := hf
  refine ax_getR fl_1057 rfl dM_saysOf_1 e_r1 ?_
  refine ax_iload_n (i := 3) dM_saysOf_4 rfl rfl ?_
  replace hf := bd1_s hf
  obtain ⟨a2, e_d, hf⟩ := hf
  subst e_d
  replace hf := bd1_s hf
  obtain ⟨x3, e_x3, hf⟩ := hf
  refine ax_iald dM_saysOf_5 e_x3 ?_
  refine ax_iconst (-1 : Int32) dM_saysOf_6 k32_m1 ?_
  replace hf := ite_c hf
  rcases hf with ⟨hc, hf⟩ | ⟨hc, hf⟩
  · refine ax_icmp_neF 14 dM_saysOf_7 (by decide) hc ?_
    refine ax_iconst (-1 : Int32) dM_saysOf_10 k32_m1 ?_
    refine ax_goto 31 dM_saysOf_11 (by decide) ?_
    cases hf
    exact Hr _ _ dM_saysOf_31
  · refine ax_icmp_neT 14 dM_saysOf_7 (by decide) hc ?_
    refine ax_aload_n (i := 0) (some o) dM_saysOf_14 rfl rfl ?_
    replace hf := bd1_s hf
    obtain ⟨r4, e_r4, hf⟩ := hf
    refine ax_getR fl_1017 rfl dM_saysOf_15 e_r4 ?_
    refine ax_iload_n (i := 1) dM_saysOf_18 rfl rfl ?_
    refine ax_iload_n (i := 2) dM_saysOf_19 rfl rfl ?_
    refine ax_iconst (1 : Int32) dM_saysOf_20 k32_1 ?_
    refine ax_aload_n (i := 0) (some o) dM_saysOf_21 rfl rfl ?_
    replace hf := bd1_s hf
    obtain ⟨r5, e_r5, hf⟩ := hf
    refine ax_getR fl_1057 rfl dM_saysOf_22 e_r5 ?_
    refine ax_iload_n (i := 3) dM_saysOf_25 rfl rfl ?_
    replace hf := bd1_s hf
    obtain ⟨a6, e_d, hf⟩ := hf
    subst e_d
    replace hf := bd1_s hf
    obtain ⟨x7, e_x7, hf⟩ := hf
    refine ax_iald dM_saysOf_26 e_x7 ?_
    replace hf := bd1_s hf
    obtain ⟨x8, e_x8, hf⟩ := hf
    refine ax_callS (As := [.int p1, .int p2, .int (1 : Int32), .int x7]) (rest := [va_rf r4]) (c_M_place e_x8) ml_1246 cm_M_place (Nat.le_trans (Nat.le_of_ble_eq_true rfl) hR1) (Nat.le_trans (Nat.le_of_ble_eq_true rfl) hR2) rfl rfl (by simp only [List.map_cons, List.map_nil, List.sum_cons, List.sum_nil, cat_rf]; exact Nat.le_of_ble_eq_true rfl) dM_saysOf_27 ?_
    replace hf := bd1_s hf
    obtain ⟨a9, e_d, hf⟩ := hf
    subst e_d
    replace hf := bd1_s hf
    obtain ⟨x10, e_x10, hf⟩ := hf
    refine ax_iald dM_saysOf_30 e_x10 ?_
    cases hf
    exact Hr _ _ dM_saysOf_31
theorem c_M_saysOf {l : Launch} {E : EN} {h0 : AH} {o : Nat} {p1 : Int32} {p2 : Int32} {p3 : Int32} {r : Int32} (hf : f_M_saysOf h0 o p1 p2 p3 = some r) : AM l E 2 mi_M_saysOf [va_rf (some o), .int p1, .int p2, .int p3] h0 (some (.int r)) h0 :=
  am_of2 [(va_rf (some o), false), (.int p1, false), (.int p2, false), (.int p3, false)] 0 ⟨cat_rf _, rfl, rfl, rfl, trivial⟩ rfl rfl (v_M_saysOf (Nat.le_refl _) (Nat.le_refl _) (fun pc L hd => ax_iret rfl hd rfl) hf)
theorem v_M_hearsOf {l : Launch} {E : EN} {R : Room} {B : (Nat × Nat) × (Nat × Nat)} {Qf : QF} {h0 : AH} {o : Nat} {p1 : Int32} {p2 : Int32} {p3 : Int32} {r : Int32} (hR1 : 2 ≤ R.frames) (hR2 : 128 ≤ R.locals) (Hr : ∀ (pc : Nat) (L : List (Option Value)), decode mi_M_hearsOf.2.1 pc = .ok (.ireturn, 1) → AW l E mi_M_hearsOf R B Qf pc L [.int r] h0) (hf : f_M_hearsOf h0 o p1 p2 p3 = some r) : AW l E mi_M_hearsOf R B Qf 0 [some (va_rf (some o)), some (.int p1), some (.int p2), some (.int p3)] [] h0 := by
  unfold f_M_hearsOf at hf
  refine ax_aload_n (i := 0) (some o) dM_hearsOf_0 rfl rfl ?_
  replace hf := bd1_s hf
  obtain ⟨r1, e_r1, hf⟩ := hf
  refine ax_getR fl_1057 rfl dM_hearsOf_1 e_r1 ?_
  refine ax_iload_n (i := 3) dM_hearsOf_4 rfl rfl ?_
  replace hf := bd1_s hf
  obtain ⟨a2, e_d, hf⟩ := hf
  subst e_d
  replace hf := bd1_s hf
  obtain ⟨x3, e_x3, hf⟩ := hf
  refine ax_iald dM_hearsOf_5 e_x3 ?_
  refine ax_iconst (-1 : Int32) dM_hearsOf_6 k32_m1 ?_
  replace hf := ite_c hf
  rcases hf with ⟨hc, hf⟩ | ⟨hc, hf⟩
  · refine ax_icmp_neF 14 dM_hearsOf_7 (by decide) hc ?_
    refine ax_iconst (-1 : Int32) dM_hearsOf_10 k32_m1 ?_
    refine ax_goto 31 dM_hearsOf_11 (by decide) ?_
    cases hf
    exact Hr _ _ dM_hearsOf_31
  · refine ax_icmp_neT 14 dM_hearsOf_7 (by decide) hc ?_
    refine ax_aload_n (i := 0) (some o) dM_hearsOf_14 rfl rfl ?_
    replace hf := bd1_s hf
    obtain ⟨r4, e_r4, hf⟩ := hf
    refine ax_getR fl_1017 rfl dM_hearsOf_15 e_r4 ?_
    refine ax_iload_n (i := 1) dM_hearsOf_18 rfl rfl ?_
    refine ax_iload_n (i := 2) dM_hearsOf_19 rfl rfl ?_
    refine ax_iconst (0 : Int32) dM_hearsOf_20 k32_0 ?_
    refine ax_aload_n (i := 0) (some o) dM_hearsOf_21 rfl rfl ?_
    replace hf := bd1_s hf
    obtain ⟨r5, e_r5, hf⟩ := hf
    refine ax_getR fl_1057 rfl dM_hearsOf_22 e_r5 ?_
    refine ax_iload_n (i := 3) dM_hearsOf_25 rfl rfl ?_
    replace hf := bd1_s hf
    obtain ⟨a6, e_d, hf⟩ := hf
    subst e_d
    replace hf := bd1_s hf
    obtain ⟨x7, e_x7, hf⟩ := hf
    refine ax_iald dM_hearsOf_26 e_x7 ?_
    replace hf := bd1_s hf
    obtain ⟨x8, e_x8, hf⟩ := hf
    refine ax_callS (As := [.int p1, .int p2, .int (0 : Int32), .int x7]) (rest := [va_rf r4]) (c_M_place e_x8) ml_1246 cm_M_place (Nat.le_trans (Nat.le_of_ble_eq_true rfl) hR1) (Nat.le_trans (Nat.le_of_ble_eq_true rfl) hR2) rfl rfl (by simp only [List.map_cons, List.map_nil, List.sum_cons, List.sum_nil, cat_rf]; exact Nat.le_of_ble_eq_true rfl) dM_hearsOf_27 ?_
    replace hf := bd1_s hf
    obtain ⟨a9, e_d, hf⟩ := hf
    subst e_d
    replace hf := bd1_s hf
    obtain ⟨x10, e_x10, hf⟩ := hf
    refine ax_iald dM_hearsOf_30 e_x10 ?_
    cases hf
    exact Hr _ _ dM_hearsOf_31
theorem c_M_hearsOf {l : Launch} {E : EN} {h0 : AH} {o : Nat} {p1 : Int32} {p2 : Int32} {p3 : Int32} {r : Int32} (hf : f_M_hearsOf h0 o p1 p2 p3 = some r) : AM l E 2 mi_M_hearsOf [va_rf (some o), .int p1, .int p2, .int p3] h0 (some (.int r)) h0 :=
  am_of2 [(va_rf (some o), false), (.int p1, false), (.int p2, false), (.int p3, false)] 0 ⟨cat_rf _, rfl, rfl, rfl, trivial⟩ rfl rfl (v_M_hearsOf (Nat.le_refl _) (Nat.le_refl _) (fun pc L hd => ax_iret rfl hd rfl) hf)
theorem w_M_passFrom_L35 {l : Launch} {E : EN} {R : Room} {B : (Nat × Nat) × (Nat × Nat)} {Qf : QF} {hF : AH} (hR1 : 3 ≤ R.frames) (hR2 : 192 ≤ R.locals) (Hr : ∀ (pc : Nat) (L : List (Option Value)), decode mi_M_passFrom.2.1 pc = .ok (.return_, 1) → AW l E mi_M_passFrom R B Qf pc L [] hF) {y0 : Nat} {y1 : Int32} {y2 : Int32} {y3 : Int32} {y4 : Int32} {y5 : Int32} : ∀ (n : Nat) (z6 : Int32) (h : AH), f_M_passFrom_L35 y0 y1 y2 y3 y4 y5 n z6 h = some hF → AW l E mi_M_passFrom R B Qf 35 [some (va_rf (some y0)), some (.int y1), some (.int y2), some (.int y3), some (.int y4), some (.int y5), some (.int z6), none, none] [] h := by
  intro n
  induction n with
  | zero => intro z6 h hf; cases hf
  | succ n ih =>
    intro z6 h hf
    rw [f_M_passFrom_L35] at hf
    refine ax_iload (i := 6) dM_passFrom_35 rfl ?_
    refine ax_bipush (8 : Int32) dM_passFrom_37 k8_8 ?_
    replace hf := ite_c hf
    rcases hf with ⟨hc, hf⟩ | ⟨hc, hf⟩
    · refine ax_icmp_geF 230 dM_passFrom_39 (by decide) hc ?_
      refine ax_aload_n (i := 0) (some y0) dM_passFrom_42 rfl rfl ?_
      refine ax_iload_n (i := 1) dM_passFrom_43 rfl rfl ?_
      refine ax_iload (i := 4) dM_passFrom_44 rfl ?_
      refine ax_iload (i := 6) dM_passFrom_46 rfl ?_
      replace hf := bd1_s hf
      obtain ⟨x11, e_x11, hf⟩ := hf
      obtain ⟨k_e_x11, e_x11⟩ := cv_s e_x11
      refine ax_callV (As := [.int y1, .int y4, .int z6]) (rest := []) (c_M_saysOf e_x11) ml_1306 cm_M_saysOf rfl k_e_x11 (Nat.le_trans (Nat.le_of_ble_eq_true rfl) hR1) (Nat.le_trans (Nat.le_of_ble_eq_true rfl) hR2) rfl rfl (Nat.le_of_ble_eq_true rfl) dM_passFrom_48 ?_
      refine ax_istore (i := 7) [some (va_rf (some y0)), some (.int y1), some (.int y2), some (.int y3), some (.int y4), some (.int y5), some (.int z6), some (.int x11), none] dM_passFrom_51 (Nat.le_of_ble_eq_true rfl) (Or.inr (c1i rfl)) rfl ?_
      refine ax_aload_n (i := 0) (some y0) dM_passFrom_53 rfl rfl ?_
      replace hf := bd1_s hf
      obtain ⟨r12, e_r12, hf⟩ := hf
      refine ax_getR fl_1017 rfl dM_passFrom_54 e_r12 ?_
      refine ax_iload_n (i := 2) dM_passFrom_57 rfl rfl ?_
      refine ax_iload (i := 5) dM_passFrom_58 rfl ?_
      refine ax_iconst (0 : Int32) dM_passFrom_60 k32_0 ?_
      refine ax_iload (i := 6) dM_passFrom_61 rfl ?_
      replace hf := bd1_s hf
      obtain ⟨x13, e_x13, hf⟩ := hf
      refine ax_callS (As := [.int y2, .int y5, .int (0 : Int32), .int z6]) (rest := [va_rf r12]) (c_M_place e_x13) ml_1246 cm_M_place (Nat.le_trans (Nat.le_of_ble_eq_true rfl) hR1) (Nat.le_trans (Nat.le_of_ble_eq_true rfl) hR2) rfl rfl (by simp only [List.map_cons, List.map_nil, List.sum_cons, List.sum_nil, cat_rf]; exact Nat.le_of_ble_eq_true rfl) dM_passFrom_63 ?_
      replace hf := bd1_s hf
      obtain ⟨a14, e_d, hf⟩ := hf
      subst e_d
      replace hf := bd1_s hf
      obtain ⟨x15, e_x15, hf⟩ := hf
      refine ax_iald dM_passFrom_66 e_x15 ?_
      refine ax_istore (i := 8) [some (va_rf (some y0)), some (.int y1), some (.int y2), some (.int y3), some (.int y4), some (.int y5), some (.int z6), some (.int x11), some (.int x15)] dM_passFrom_67 (Nat.le_of_ble_eq_true rfl) (Or.inr (c1i rfl)) rfl ?_
      refine ax_aload_n (i := 0) (some y0) dM_passFrom_69 rfl rfl ?_
      refine ax_aload_n (i := 0) (some y0) dM_passFrom_70 rfl rfl ?_
      replace hf := bd1_s hf
      obtain ⟨x16, e_x16, hf⟩ := hf
      refine ax_getI fl_1058 rfl dM_passFrom_71 e_x16 ?_
      replace hf := bd1_s hf
      obtain ⟨x17, hT, hf⟩ := hf
      have K : AW l E mi_M_passFrom R B Qf 94 [some (va_rf (some y0)), some (.int y1), some (.int y2), some (.int y3), some (.int y4), some (.int y5), some (.int z6), some (.int x11), some (.int x15)] [.int x17, va_rf (some y0)] h := by
        clear hT
        replace hf := bd1_s hf
        obtain ⟨h18, e_h18, hf⟩ := hf
        refine ax_putZ fw_1058 rfl rfl dM_passFrom_94 e_h18 ?_
        refine ax_iload (i := 7) dM_passFrom_97 rfl ?_
        refine ax_iconst (-1 : Int32) dM_passFrom_99 k32_m1 ?_
        replace hf := bd1_s hf
        obtain ⟨h22, hT, hf⟩ := hf
        have K : AW l E mi_M_passFrom R B Qf 132 [some (va_rf (some y0)), some (.int y1), some (.int y2), some (.int y3), some (.int y4), some (.int y5), some (.int z6), none, none] [] h22 := by
          clear hT
          refine ax_aload_n (i := 0) (some y0) dM_passFrom_132 rfl rfl ?_
          replace hf := bd1_s hf
          obtain ⟨r23, e_r23, hf⟩ := hf
          refine ax_getR fl_1017 rfl dM_passFrom_133 e_r23 ?_
          refine ax_iload_n (i := 2) dM_passFrom_136 rfl rfl ?_
          refine ax_iload (i := 5) dM_passFrom_137 rfl ?_
          refine ax_iconst (1 : Int32) dM_passFrom_139 k32_1 ?_
          refine ax_iload (i := 6) dM_passFrom_140 rfl ?_
          replace hf := bd1_s hf
          obtain ⟨x24, e_x24, hf⟩ := hf
          refine ax_callS (As := [.int y2, .int y5, .int (1 : Int32), .int z6]) (rest := [va_rf r23]) (c_M_place e_x24) ml_1246 cm_M_place (Nat.le_trans (Nat.le_of_ble_eq_true rfl) hR1) (Nat.le_trans (Nat.le_of_ble_eq_true rfl) hR2) rfl rfl (by simp only [List.map_cons, List.map_nil, List.sum_cons, List.sum_nil, cat_rf]; exact Nat.le_of_ble_eq_true rfl) dM_passFrom_142 ?_
          replace hf := bd1_s hf
          obtain ⟨a25, e_d, hf⟩ := hf
          subst e_d
          replace hf := bd1_s hf
          obtain ⟨x26, e_x26, hf⟩ := hf
          refine ax_iald dM_passFrom_145 e_x26 ?_
          refine ax_istore (i := 7) [some (va_rf (some y0)), some (.int y1), some (.int y2), some (.int y3), some (.int y4), some (.int y5), some (.int z6), some (.int x26), none] dM_passFrom_146 (Nat.le_of_ble_eq_true rfl) (Or.inr (c1i rfl)) rfl ?_
          refine ax_aload_n (i := 0) (some y0) dM_passFrom_148 rfl rfl ?_
          refine ax_iload_n (i := 1) dM_passFrom_149 rfl rfl ?_
          refine ax_iload (i := 4) dM_passFrom_150 rfl ?_
          refine ax_iload (i := 6) dM_passFrom_152 rfl ?_
          replace hf := bd1_s hf
          obtain ⟨x27, e_x27, hf⟩ := hf
          obtain ⟨k_e_x27, e_x27⟩ := cv_s e_x27
          refine ax_callV (As := [.int y1, .int y4, .int z6]) (rest := []) (c_M_hearsOf e_x27) ml_1310 cm_M_hearsOf rfl k_e_x27 (Nat.le_trans (Nat.le_of_ble_eq_true rfl) hR1) (Nat.le_trans (Nat.le_of_ble_eq_true rfl) hR2) rfl rfl (Nat.le_of_ble_eq_true rfl) dM_passFrom_154 ?_
          refine ax_istore (i := 8) [some (va_rf (some y0)), some (.int y1), some (.int y2), some (.int y3), some (.int y4), some (.int y5), some (.int z6), some (.int x26), some (.int x27)] dM_passFrom_157 (Nat.le_of_ble_eq_true rfl) (Or.inr (c1i rfl)) rfl ?_
          refine ax_aload_n (i := 0) (some y0) dM_passFrom_159 rfl rfl ?_
          refine ax_aload_n (i := 0) (some y0) dM_passFrom_160 rfl rfl ?_
          replace hf := bd1_s hf
          obtain ⟨x28, e_x28, hf⟩ := hf
          refine ax_getI fl_1058 rfl dM_passFrom_161 e_x28 ?_
          replace hf := bd1_s hf
          obtain ⟨x29, hT, hf⟩ := hf
          have K : AW l E mi_M_passFrom R B Qf 184 [some (va_rf (some y0)), some (.int y1), some (.int y2), some (.int y3), some (.int y4), some (.int y5), some (.int z6), some (.int x26), some (.int x27)] [.int x29, va_rf (some y0)] h22 := by
            clear hT
            replace hf := bd1_s hf
            obtain ⟨h30, e_h30, hf⟩ := hf
            refine ax_putZ fw_1058 rfl rfl dM_passFrom_184 e_h30 ?_
            refine ax_iload (i := 7) dM_passFrom_187 rfl ?_
            refine ax_iconst (-1 : Int32) dM_passFrom_189 k32_m1 ?_
            replace hf := ite_c hf
            rcases hf with ⟨hc, hf⟩ | ⟨hc, hf⟩
            · refine ax_icmp_eqT 224 dM_passFrom_190 (by decide) hc ?_
              refine ax_iinc (i := 6) (z6 + (1 : Int32)) [some (va_rf (some y0)), some (.int y1), some (.int y2), some (.int y3), some (.int y4), some (.int y5), some (.int (z6 + (1 : Int32))), some (.int x26), some (.int x27)] dM_passFrom_224 rfl (iic k32_1) (Or.inr (c1i rfl)) rfl ?_
              refine ax_goto 35 dM_passFrom_227 (by decide) ?_
              refine ax_mask [true, true, true, true, true, true, true, false, false] rfl [some (va_rf (some y0)), some (.int y1), some (.int y2), some (.int y3), some (.int y4), some (.int y5), some (.int (z6 + (1 : Int32))), none, none] rfl ?_
              exact ih (z6 + (1 : Int32)) h30 hf
            · refine ax_icmp_eqF 224 dM_passFrom_190 (by decide) hc ?_
              refine ax_iload (i := 8) dM_passFrom_193 rfl ?_
              refine ax_iconst (-1 : Int32) dM_passFrom_195 k32_m1 ?_
              replace hf := ite_c hf
              rcases hf with ⟨hc, hf⟩ | ⟨hc, hf⟩
              · refine ax_icmp_eqT 224 dM_passFrom_196 (by decide) hc ?_
                refine ax_iinc (i := 6) (z6 + (1 : Int32)) [some (va_rf (some y0)), some (.int y1), some (.int y2), some (.int y3), some (.int y4), some (.int y5), some (.int (z6 + (1 : Int32))), some (.int x26), some (.int x27)] dM_passFrom_224 rfl (iic k32_1) (Or.inr (c1i rfl)) rfl ?_
                refine ax_goto 35 dM_passFrom_227 (by decide) ?_
                refine ax_mask [true, true, true, true, true, true, true, false, false] rfl [some (va_rf (some y0)), some (.int y1), some (.int y2), some (.int y3), some (.int y4), some (.int y5), some (.int (z6 + (1 : Int32))), none, none] rfl ?_
                exact ih (z6 + (1 : Int32)) h30 hf
              · refine ax_icmp_eqF 224 dM_passFrom_196 (by decide) hc ?_
                refine ax_aload_n (i := 0) (some y0) dM_passFrom_199 rfl rfl ?_
                refine ax_iconst (1 : Int32) dM_passFrom_200 k32_1 ?_
                replace hf := bd1_s hf
                obtain ⟨h31, e_h31, hf⟩ := hf
                refine ax_putZ fw_1059 rfl rfl dM_passFrom_201 e_h31 ?_
                refine ax_aload_n (i := 0) (some y0) dM_passFrom_204 rfl rfl ?_
                refine ax_bipush (25 : Int32) dM_passFrom_205 k8_25 ?_
                refine ax_iload (i := 8) dM_passFrom_207 rfl ?_
                refine ax_imul dM_passFrom_209 ?_
                refine ax_iload (i := 7) dM_passFrom_210 rfl ?_
                refine ax_iadd dM_passFrom_212 ?_
                refine ax_iload_n (i := 3) dM_passFrom_213 rfl rfl ?_
                refine ax_iconst (2 : Int32) dM_passFrom_214 k32_2 ?_
                refine ax_iload (i := 6) dM_passFrom_215 rfl ?_
                refine ax_imul dM_passFrom_217 ?_
                refine ax_iconst (1 : Int32) dM_passFrom_218 k32_1 ?_
                refine ax_iadd dM_passFrom_219 ?_
                replace hf := bd2_s hf
                obtain ⟨x32, h33, e_x32, hf⟩ := hf
                obtain ⟨k_e_x32, e_x32⟩ := cv_s e_x32
                refine ax_callV (As := [.int (((25 : Int32) * x27) + x26), .int y3, .int (((2 : Int32) * z6) + (1 : Int32))]) (rest := []) (c_M_isNew e_x32) ml_1297 cm_M_isNew rfl k_e_x32 (Nat.le_trans (Nat.le_of_ble_eq_true rfl) hR1) (Nat.le_trans (Nat.le_of_ble_eq_true rfl) hR2) rfl rfl (Nat.le_of_ble_eq_true rfl) dM_passFrom_220 ?_
                refine ax_pop dM_passFrom_223 rfl ?_
                refine ax_iinc (i := 6) (z6 + (1 : Int32)) [some (va_rf (some y0)), some (.int y1), some (.int y2), some (.int y3), some (.int y4), some (.int y5), some (.int (z6 + (1 : Int32))), some (.int x26), some (.int x27)] dM_passFrom_224 rfl (iic k32_1) (Or.inr (c1i rfl)) rfl ?_
                refine ax_goto 35 dM_passFrom_227 (by decide) ?_
                refine ax_mask [true, true, true, true, true, true, true, false, false] rfl [some (va_rf (some y0)), some (.int y1), some (.int y2), some (.int y3), some (.int y4), some (.int y5), some (.int (z6 + (1 : Int32))), none, none] rfl ?_
                exact ih (z6 + (1 : Int32)) h33 hf
          replace hf := hT
          clear hT
          replace hf := ite_c hf
          rcases hf with ⟨hc, hf⟩ | ⟨hc, hf⟩
          · refine ax_if_neF 179 dM_passFrom_164 (by decide) hc ?_
            refine ax_iload (i := 7) dM_passFrom_167 rfl ?_
            refine ax_iconst (-1 : Int32) dM_passFrom_169 k32_m1 ?_
            replace hf := ite_c hf
            rcases hf with ⟨hc, hf⟩ | ⟨hc, hf⟩
            · refine ax_icmp_eqT 183 dM_passFrom_170 (by decide) hc ?_
              refine ax_iconst (0 : Int32) dM_passFrom_183 k32_0 ?_
              cases hf
              exact K
            · refine ax_icmp_eqF 183 dM_passFrom_170 (by decide) hc ?_
              refine ax_iload (i := 8) dM_passFrom_173 rfl ?_
              refine ax_iconst (-1 : Int32) dM_passFrom_175 k32_m1 ?_
              replace hf := ite_c hf
              rcases hf with ⟨hc, hf⟩ | ⟨hc, hf⟩
              · refine ax_icmp_neF 183 dM_passFrom_176 (by decide) hc ?_
                refine ax_iconst (1 : Int32) dM_passFrom_179 k32_1 ?_
                refine ax_goto 184 dM_passFrom_180 (by decide) ?_
                cases hf
                exact K
              · refine ax_icmp_neT 183 dM_passFrom_176 (by decide) hc ?_
                refine ax_iconst (0 : Int32) dM_passFrom_183 k32_0 ?_
                cases hf
                exact K
          · refine ax_if_neT 179 dM_passFrom_164 (by decide) hc ?_
            refine ax_iconst (1 : Int32) dM_passFrom_179 k32_1 ?_
            refine ax_goto 184 dM_passFrom_180 (by decide) ?_
            cases hf
            exact K
        replace hf := hT
        clear hT
        replace hf := ite_c hf
        rcases hf with ⟨hc, hf⟩ | ⟨hc, hf⟩
        · refine ax_icmp_eqT 132 dM_passFrom_100 (by decide) hc ?_
          refine ax_mask [true, true, true, true, true, true, true, false, false] rfl [some (va_rf (some y0)), some (.int y1), some (.int y2), some (.int y3), some (.int y4), some (.int y5), some (.int z6), none, none] rfl ?_
          cases hf
          exact K
        · refine ax_icmp_eqF 132 dM_passFrom_100 (by decide) hc ?_
          refine ax_iload (i := 8) dM_passFrom_103 rfl ?_
          refine ax_iconst (-1 : Int32) dM_passFrom_105 k32_m1 ?_
          replace hf := ite_c hf
          rcases hf with ⟨hc, hf⟩ | ⟨hc, hf⟩
          · refine ax_icmp_eqT 132 dM_passFrom_106 (by decide) hc ?_
            refine ax_mask [true, true, true, true, true, true, true, false, false] rfl [some (va_rf (some y0)), some (.int y1), some (.int y2), some (.int y3), some (.int y4), some (.int y5), some (.int z6), none, none] rfl ?_
            cases hf
            exact K
          · refine ax_icmp_eqF 132 dM_passFrom_106 (by decide) hc ?_
            refine ax_aload_n (i := 0) (some y0) dM_passFrom_109 rfl rfl ?_
            refine ax_iconst (1 : Int32) dM_passFrom_110 k32_1 ?_
            replace hf := bd1_s hf
            obtain ⟨h19, e_h19, hf⟩ := hf
            refine ax_putZ fw_1059 rfl rfl dM_passFrom_111 e_h19 ?_
            refine ax_aload_n (i := 0) (some y0) dM_passFrom_114 rfl rfl ?_
            refine ax_bipush (25 : Int32) dM_passFrom_115 k8_25 ?_
            refine ax_iload (i := 7) dM_passFrom_117 rfl ?_
            refine ax_imul dM_passFrom_119 ?_
            refine ax_iload (i := 8) dM_passFrom_120 rfl ?_
            refine ax_iadd dM_passFrom_122 ?_
            refine ax_iload_n (i := 3) dM_passFrom_123 rfl rfl ?_
            refine ax_iconst (2 : Int32) dM_passFrom_124 k32_2 ?_
            refine ax_iload (i := 6) dM_passFrom_125 rfl ?_
            refine ax_imul dM_passFrom_127 ?_
            replace hf := bd2_s hf
            obtain ⟨x20, h21, e_x20, hf⟩ := hf
            obtain ⟨k_e_x20, e_x20⟩ := cv_s e_x20
            refine ax_callV (As := [.int (((25 : Int32) * x11) + x15), .int y3, .int ((2 : Int32) * z6)]) (rest := []) (c_M_isNew e_x20) ml_1297 cm_M_isNew rfl k_e_x20 (Nat.le_trans (Nat.le_of_ble_eq_true rfl) hR1) (Nat.le_trans (Nat.le_of_ble_eq_true rfl) hR2) rfl rfl (Nat.le_of_ble_eq_true rfl) dM_passFrom_128 ?_
            refine ax_pop dM_passFrom_131 rfl ?_
            refine ax_mask [true, true, true, true, true, true, true, false, false] rfl [some (va_rf (some y0)), some (.int y1), some (.int y2), some (.int y3), some (.int y4), some (.int y5), some (.int z6), none, none] rfl ?_
            cases hf
            exact K
      replace hf := hT
      clear hT
      replace hf := ite_c hf
      rcases hf with ⟨hc, hf⟩ | ⟨hc, hf⟩
      · refine ax_if_neF 89 dM_passFrom_74 (by decide) hc ?_
        refine ax_iload (i := 7) dM_passFrom_77 rfl ?_
        refine ax_iconst (-1 : Int32) dM_passFrom_79 k32_m1 ?_
        replace hf := ite_c hf
        rcases hf with ⟨hc, hf⟩ | ⟨hc, hf⟩
        · refine ax_icmp_eqT 93 dM_passFrom_80 (by decide) hc ?_
          refine ax_iconst (0 : Int32) dM_passFrom_93 k32_0 ?_
          cases hf
          exact K
        · refine ax_icmp_eqF 93 dM_passFrom_80 (by decide) hc ?_
          refine ax_iload (i := 8) dM_passFrom_83 rfl ?_
          refine ax_iconst (-1 : Int32) dM_passFrom_85 k32_m1 ?_
          replace hf := ite_c hf
          rcases hf with ⟨hc, hf⟩ | ⟨hc, hf⟩
          · refine ax_icmp_neF 93 dM_passFrom_86 (by decide) hc ?_
            refine ax_iconst (1 : Int32) dM_passFrom_89 k32_1 ?_
            refine ax_goto 94 dM_passFrom_90 (by decide) ?_
            cases hf
            exact K
          · refine ax_icmp_neT 93 dM_passFrom_86 (by decide) hc ?_
            refine ax_iconst (0 : Int32) dM_passFrom_93 k32_0 ?_
            cases hf
            exact K
      · refine ax_if_neT 89 dM_passFrom_74 (by decide) hc ?_
        refine ax_iconst (1 : Int32) dM_passFrom_89 k32_1 ?_
        refine ax_goto 94 dM_passFrom_90 (by decide) ?_
        cases hf
        exact K
    · refine ax_icmp_geT 230 dM_passFrom_39 (by decide) hc ?_
      cases hf
      exact Hr _ _ dM_passFrom_230
theorem v_M_passFrom {l : Launch} {E : EN} {R : Room} {B : (Nat × Nat) × (Nat × Nat)} {Qf : QF} {h0 : AH} {o : Nat} {p1 : Int32} {p2 : Int32} {p3 : Int32} {hF : AH} (hR1 : 3 ≤ R.frames) (hR2 : 192 ≤ R.locals) (Hr : ∀ (pc : Nat) (L : List (Option Value)), decode mi_M_passFrom.2.1 pc = .ok (.return_, 1) → AW l E mi_M_passFrom R B Qf pc L [] hF) (hf : f_M_passFrom h0 o p1 p2 p3 = some hF) : AW l E mi_M_passFrom R B Qf 0 [some (va_rf (some o)), some (.int p1), some (.int p2), some (.int p3), none, none, none, none, none] [] h0 := by
  unfold f_M_passFrom at hf
  refine ax_aload_n (i := 0) (some o) dM_passFrom_0 rfl rfl ?_
  replace hf := bd1_s hf
  obtain ⟨r1, e_r1, hf⟩ := hf
  refine ax_getR fl_1052 rfl dM_passFrom_1 e_r1 ?_
  refine ax_iload_n (i := 3) dM_passFrom_4 rfl rfl ?_
  replace hf := bd1_s hf
  obtain ⟨a2, e_d, hf⟩ := hf
  subst e_d
  replace hf := bd1_s hf
  obtain ⟨x3, e_x3, hf⟩ := hf
  refine ax_iald dM_passFrom_5 e_x3 ?_
  refine ax_bipush (25 : Int32) dM_passFrom_6 k8_25 ?_
  refine ax_idiv dM_passFrom_8 (by decide) ?_
  replace hf := bd1_s hf
  obtain ⟨x4, e_x4, hf⟩ := hf
  refine ax_nmI (Option.some.inj e_x4) ?_
  refine ax_istore (i := 4) [some (va_rf (some o)), some (.int p1), some (.int p2), some (.int p3), some (.int x4), none, none, none, none] dM_passFrom_9 (Nat.le_of_ble_eq_true rfl) (Or.inr (c1i rfl)) rfl ?_
  refine ax_aload_n (i := 0) (some o) dM_passFrom_11 rfl rfl ?_
  replace hf := bd1_s hf
  obtain ⟨r5, e_r5, hf⟩ := hf
  refine ax_getR fl_1052 rfl dM_passFrom_12 e_r5 ?_
  refine ax_iload_n (i := 3) dM_passFrom_15 rfl rfl ?_
  replace hf := bd1_s hf
  obtain ⟨a6, e_d, hf⟩ := hf
  subst e_d
  replace hf := bd1_s hf
  obtain ⟨x7, e_x7, hf⟩ := hf
  refine ax_iald dM_passFrom_16 e_x7 ?_
  refine ax_bipush (25 : Int32) dM_passFrom_17 k8_25 ?_
  refine ax_irem dM_passFrom_19 (by decide) ?_
  replace hf := bd1_s hf
  obtain ⟨x8, e_x8, hf⟩ := hf
  refine ax_nmI (Option.some.inj e_x8) ?_
  refine ax_istore (i := 5) [some (va_rf (some o)), some (.int p1), some (.int p2), some (.int p3), some (.int x4), some (.int x8), none, none, none] dM_passFrom_20 (Nat.le_of_ble_eq_true rfl) (Or.inr (c1i rfl)) rfl ?_
  refine ax_aload_n (i := 0) (some o) dM_passFrom_22 rfl rfl ?_
  refine ax_iconst (0 : Int32) dM_passFrom_23 k32_0 ?_
  replace hf := bd1_s hf
  obtain ⟨h9, e_h9, hf⟩ := hf
  refine ax_putZ fw_1058 rfl rfl dM_passFrom_24 e_h9 ?_
  refine ax_aload_n (i := 0) (some o) dM_passFrom_27 rfl rfl ?_
  refine ax_iconst (0 : Int32) dM_passFrom_28 k32_0 ?_
  replace hf := bd1_s hf
  obtain ⟨h10, e_h10, hf⟩ := hf
  refine ax_putZ fw_1059 rfl rfl dM_passFrom_29 e_h10 ?_
  refine ax_iconst (0 : Int32) dM_passFrom_32 k32_0 ?_
  refine ax_istore (i := 6) [some (va_rf (some o)), some (.int p1), some (.int p2), some (.int p3), some (.int x4), some (.int x8), some (.int (0 : Int32)), none, none] dM_passFrom_33 (Nat.le_of_ble_eq_true rfl) (Or.inr (c1i rfl)) rfl ?_
  refine w_M_passFrom_L35 hR1 hR2 Hr FU (0 : Int32) h10 hf
theorem c_M_passFrom {l : Launch} {E : EN} {h0 : AH} {o : Nat} {p1 : Int32} {p2 : Int32} {p3 : Int32} {hF : AH} (hf : f_M_passFrom h0 o p1 p2 p3 = some hF) : AM l E 3 mi_M_passFrom [va_rf (some o), .int p1, .int p2, .int p3] h0 none hF :=
  am_of2 [(va_rf (some o), false), (.int p1, false), (.int p2, false), (.int p3, false)] 5 ⟨cat_rf _, rfl, rfl, rfl, trivial⟩ rfl rfl (v_M_passFrom (Nat.le_refl _) (Nat.le_refl _) (fun pc L hd => ax_vret rfl hd rfl) hf)
theorem w_M_walk_L18 {l : Launch} {E : EN} {R : Room} {B : (Nat × Nat) × (Nat × Nat)} {Qf : QF} {r : Int32} {hF : AH} (hR1 : 4 ≤ R.frames) (hR2 : 256 ≤ R.locals) (Hr : ∀ (pc : Nat) (L : List (Option Value)), decode mi_M_walk.2.1 pc = .ok (.ireturn, 1) → AW l E mi_M_walk R B Qf pc L [.int r] hF) {y0 : Nat} {y1 : Int32} {y2 : Int32} {y3 : Int32} : ∀ (n : Nat) (z4 : Int32) (z5 : Int32) (h : AH), f_M_walk_L18 y0 y1 y2 y3 n z4 z5 h = some (r, hF) → AW l E mi_M_walk R B Qf 18 [some (va_rf (some y0)), some (.int y1), some (.int y2), some (.int y3), some (.int z4), some (.int z5), none, none] [] h := by
  intro n
  induction n with
  | zero => intro z4 z5 h hf; cases hf
  | succ n ih =>
    intro z4 z5 h hf
    rw [f_M_walk_L18] at hf
    refine ax_iload (i := 5) dM_walk_18 rfl ?_
    refine ax_aload_n (i := 0) (some y0) dM_walk_20 rfl rfl ?_
    replace hf := bd1_s hf
    obtain ⟨x4, e_x4, hf⟩ := hf
    refine ax_getI fl_1051 rfl dM_walk_21 e_x4 ?_
    replace hf := ite_c hf
    rcases hf with ⟨hc, hf⟩ | ⟨hc, hf⟩
    · refine ax_icmp_geF 153 dM_walk_24 (by decide) hc ?_
      refine ax_iload_n (i := 3) dM_walk_27 rfl rfl ?_
      replace hf := ite_c hf
      rcases hf with ⟨hc, hf⟩ | ⟨hc, hf⟩
      · refine ax_if_neF 36 dM_walk_28 (by decide) hc ?_
        refine ax_iload (i := 4) dM_walk_31 rfl ?_
        replace hf := ite_c hf
        rcases hf with ⟨hc, hf⟩ | ⟨hc, hf⟩
        · refine ax_if_neF 153 dM_walk_33 (by decide) hc ?_
          refine ax_aload_n (i := 0) (some y0) dM_walk_36 rfl rfl ?_
          refine ax_iload_n (i := 1) dM_walk_37 rfl rfl ?_
          refine ax_iload_n (i := 2) dM_walk_38 rfl rfl ?_
          refine ax_iload (i := 5) dM_walk_39 rfl ?_
          replace hf := bd1_s hf
          obtain ⟨h23, e_h23, hf⟩ := hf
          obtain ⟨k_e_h23, e_h23⟩ := cv_s e_h23
          refine ax_callV (As := [.int y1, .int y2, .int z5]) (rest := []) (c_M_passFrom e_h23) ml_1302 cm_M_passFrom rfl k_e_h23 (Nat.le_trans (Nat.le_of_ble_eq_true rfl) hR1) (Nat.le_trans (Nat.le_of_ble_eq_true rfl) hR2) rfl rfl (Nat.le_of_ble_eq_true rfl) dM_walk_41 ?_
          refine ax_aload_n (i := 0) (some y0) dM_walk_44 rfl rfl ?_
          replace hf := bd1_s hf
          obtain ⟨r24, e_r24, hf⟩ := hf
          refine ax_getR fl_1018 rfl dM_walk_45 e_r24 ?_
          refine ax_bipush (25 : Int32) dM_walk_48 k8_25 ?_
          refine ax_iload_n (i := 1) dM_walk_50 rfl rfl ?_
          refine ax_imul dM_walk_51 ?_
          refine ax_aload_n (i := 0) (some y0) dM_walk_52 rfl rfl ?_
          replace hf := bd1_s hf
          obtain ⟨r25, e_r25, hf⟩ := hf
          refine ax_getR fl_1052 rfl dM_walk_53 e_r25 ?_
          refine ax_iload (i := 5) dM_walk_56 rfl ?_
          replace hf := bd1_s hf
          obtain ⟨a26, e_d, hf⟩ := hf
          subst e_d
          replace hf := bd1_s hf
          obtain ⟨x27, e_x27, hf⟩ := hf
          refine ax_iald dM_walk_58 e_x27 ?_
          refine ax_bipush (25 : Int32) dM_walk_59 k8_25 ?_
          refine ax_idiv dM_walk_61 (by decide) ?_
          refine ax_iadd dM_walk_62 ?_
          replace hf := bd1_s hf
          obtain ⟨a28, e_d, hf⟩ := hf
          subst e_d
          replace hf := bd1_s hf
          obtain ⟨x29, e_x29, hf⟩ := hf
          refine ax_zald dM_walk_63 e_x29 ?_
          replace hf := bd1_s hf
          obtain ⟨x36, hT, hf⟩ := hf
          have K : AW l E mi_M_walk R B Qf 95 [some (va_rf (some y0)), some (.int y1), some (.int y2), some (.int y3), some (.int z4), some (.int z5), none, none] [.int x36] h23 := by
            clear hT
            refine ax_istore (i := 6) [some (va_rf (some y0)), some (.int y1), some (.int y2), some (.int y3), some (.int z4), some (.int z5), some (.int x36), none] dM_walk_95 (Nat.le_of_ble_eq_true rfl) (Or.inr (c1i rfl)) rfl ?_
            refine ax_aload_n (i := 0) (some y0) dM_walk_97 rfl rfl ?_
            replace hf := bd1_s hf
            obtain ⟨x37, e_x37, hf⟩ := hf
            refine ax_getI fl_1058 rfl dM_walk_98 e_x37 ?_
            replace hf := bd1_s hf
            obtain ⟨x39, hT, hf⟩ := hf
            have K : AW l E mi_M_walk R B Qf 125 [some (va_rf (some y0)), some (.int y1), some (.int y2), some (.int y3), some (.int z4), some (.int z5), none, none] [.int x39] h23 := by
              clear hT
              refine ax_istore (i := 7) [some (va_rf (some y0)), some (.int y1), some (.int y2), some (.int y3), some (.int z4), some (.int z5), none, some (.int x39)] dM_walk_125 (Nat.le_of_ble_eq_true rfl) (Or.inr (c1n rfl)) rfl ?_
              refine ax_iload (i := 4) dM_walk_127 rfl ?_
              replace hf := ite_c hf
              rcases hf with ⟨hc, hf⟩ | ⟨hc, hf⟩
              · refine ax_if_neF 147 dM_walk_129 (by decide) hc ?_
                refine ax_iload (i := 7) dM_walk_132 rfl ?_
                replace hf := ite_c hf
                rcases hf with ⟨hc, hf⟩ | ⟨hc, hf⟩
                · refine ax_if_leF 147 dM_walk_134 (by decide) hc ?_
                  refine ax_iload (i := 7) dM_walk_137 rfl ?_
                  refine ax_istore (i := 4) [some (va_rf (some y0)), some (.int y1), some (.int y2), some (.int y3), some (.int x39), some (.int z5), none, some (.int x39)] dM_walk_139 (Nat.le_of_ble_eq_true rfl) (Or.inr (c1i rfl)) rfl ?_
                  refine ax_aload_n (i := 0) (some y0) dM_walk_141 rfl rfl ?_
                  refine ax_iload (i := 5) dM_walk_142 rfl ?_
                  replace hf := bd1_s hf
                  obtain ⟨h40, e_h40, hf⟩ := hf
                  refine ax_putI fw_1060 rfl rfl dM_walk_144 e_h40 ?_
                  refine ax_iinc (i := 5) (z5 + (1 : Int32)) [some (va_rf (some y0)), some (.int y1), some (.int y2), some (.int y3), some (.int x39), some (.int (z5 + (1 : Int32))), none, some (.int x39)] dM_walk_147 rfl (iic k32_1) (Or.inr (c1i rfl)) rfl ?_
                  refine ax_goto 18 dM_walk_150 (by decide) ?_
                  refine ax_mask [true, true, true, true, true, true, true, false] rfl [some (va_rf (some y0)), some (.int y1), some (.int y2), some (.int y3), some (.int x39), some (.int (z5 + (1 : Int32))), none, none] rfl ?_
                  exact ih x39 (z5 + (1 : Int32)) h40 hf
                · refine ax_if_leT 147 dM_walk_134 (by decide) hc ?_
                  refine ax_iinc (i := 5) (z5 + (1 : Int32)) [some (va_rf (some y0)), some (.int y1), some (.int y2), some (.int y3), some (.int z4), some (.int (z5 + (1 : Int32))), none, some (.int x39)] dM_walk_147 rfl (iic k32_1) (Or.inr (c1i rfl)) rfl ?_
                  refine ax_goto 18 dM_walk_150 (by decide) ?_
                  refine ax_mask [true, true, true, true, true, true, true, false] rfl [some (va_rf (some y0)), some (.int y1), some (.int y2), some (.int y3), some (.int z4), some (.int (z5 + (1 : Int32))), none, none] rfl ?_
                  exact ih z4 (z5 + (1 : Int32)) h23 hf
              · refine ax_if_neT 147 dM_walk_129 (by decide) hc ?_
                refine ax_iinc (i := 5) (z5 + (1 : Int32)) [some (va_rf (some y0)), some (.int y1), some (.int y2), some (.int y3), some (.int z4), some (.int (z5 + (1 : Int32))), none, some (.int x39)] dM_walk_147 rfl (iic k32_1) (Or.inr (c1i rfl)) rfl ?_
                refine ax_goto 18 dM_walk_150 (by decide) ?_
                refine ax_mask [true, true, true, true, true, true, true, false] rfl [some (va_rf (some y0)), some (.int y1), some (.int y2), some (.int y3), some (.int z4), some (.int (z5 + (1 : Int32))), none, none] rfl ?_
                exact ih z4 (z5 + (1 : Int32)) h23 hf
            replace hf := hT
            clear hT
            replace hf := ite_c hf
            rcases hf with ⟨hc, hf⟩ | ⟨hc, hf⟩
            · refine ax_if_eqT 108 dM_walk_101 (by decide) hc ?_
              refine ax_aload_n (i := 0) (some y0) dM_walk_108 rfl rfl ?_
              replace hf := bd1_s hf
              obtain ⟨x38, e_x38, hf⟩ := hf
              refine ax_getI fl_1059 rfl dM_walk_109 e_x38 ?_
              replace hf := ite_c hf
              rcases hf with ⟨hc, hf⟩ | ⟨hc, hf⟩
              · refine ax_if_neF 124 dM_walk_112 (by decide) hc ?_
                refine ax_iload (i := 6) dM_walk_115 rfl ?_
                replace hf := ite_c hf
                rcases hf with ⟨hc, hf⟩ | ⟨hc, hf⟩
                · refine ax_if_neF 124 dM_walk_117 (by decide) hc ?_
                  refine ax_iconst (1 : Int32) dM_walk_120 k32_1 ?_
                  refine ax_goto 125 dM_walk_121 (by decide) ?_
                  refine ax_mask [true, true, true, true, true, true, false, true] rfl [some (va_rf (some y0)), some (.int y1), some (.int y2), some (.int y3), some (.int z4), some (.int z5), none, none] rfl ?_
                  cases hf
                  exact K
                · refine ax_if_neT 124 dM_walk_117 (by decide) hc ?_
                  refine ax_iconst (0 : Int32) dM_walk_124 k32_0 ?_
                  refine ax_mask [true, true, true, true, true, true, false, true] rfl [some (va_rf (some y0)), some (.int y1), some (.int y2), some (.int y3), some (.int z4), some (.int z5), none, none] rfl ?_
                  cases hf
                  exact K
              · refine ax_if_neT 124 dM_walk_112 (by decide) hc ?_
                refine ax_iconst (0 : Int32) dM_walk_124 k32_0 ?_
                refine ax_mask [true, true, true, true, true, true, false, true] rfl [some (va_rf (some y0)), some (.int y1), some (.int y2), some (.int y3), some (.int z4), some (.int z5), none, none] rfl ?_
                cases hf
                exact K
            · refine ax_if_eqF 108 dM_walk_101 (by decide) hc ?_
              refine ax_iconst (2 : Int32) dM_walk_104 k32_2 ?_
              refine ax_goto 125 dM_walk_105 (by decide) ?_
              refine ax_mask [true, true, true, true, true, true, false, true] rfl [some (va_rf (some y0)), some (.int y1), some (.int y2), some (.int y3), some (.int z4), some (.int z5), none, none] rfl ?_
              cases hf
              exact K
          replace hf := hT
          clear hT
          replace hf := ite_c hf
          rcases hf with ⟨hc, hf⟩ | ⟨hc, hf⟩
          · refine ax_if_eqT 94 dM_walk_64 (by decide) hc ?_
            refine ax_iconst (0 : Int32) dM_walk_94 k32_0 ?_
            cases hf
            exact K
          · refine ax_if_eqF 94 dM_walk_64 (by decide) hc ?_
            refine ax_aload_n (i := 0) (some y0) dM_walk_67 rfl rfl ?_
            replace hf := bd1_s hf
            obtain ⟨r30, e_r30, hf⟩ := hf
            refine ax_getR fl_1018 rfl dM_walk_68 e_r30 ?_
            refine ax_bipush (25 : Int32) dM_walk_71 k8_25 ?_
            refine ax_iload_n (i := 2) dM_walk_73 rfl rfl ?_
            refine ax_imul dM_walk_74 ?_
            refine ax_aload_n (i := 0) (some y0) dM_walk_75 rfl rfl ?_
            replace hf := bd1_s hf
            obtain ⟨r31, e_r31, hf⟩ := hf
            refine ax_getR fl_1052 rfl dM_walk_76 e_r31 ?_
            refine ax_iload (i := 5) dM_walk_79 rfl ?_
            replace hf := bd1_s hf
            obtain ⟨a32, e_d, hf⟩ := hf
            subst e_d
            replace hf := bd1_s hf
            obtain ⟨x33, e_x33, hf⟩ := hf
            refine ax_iald dM_walk_81 e_x33 ?_
            refine ax_bipush (25 : Int32) dM_walk_82 k8_25 ?_
            refine ax_irem dM_walk_84 (by decide) ?_
            refine ax_iadd dM_walk_85 ?_
            replace hf := bd1_s hf
            obtain ⟨a34, e_d, hf⟩ := hf
            subst e_d
            replace hf := bd1_s hf
            obtain ⟨x35, e_x35, hf⟩ := hf
            refine ax_zald dM_walk_86 e_x35 ?_
            replace hf := ite_c hf
            rcases hf with ⟨hc, hf⟩ | ⟨hc, hf⟩
            · refine ax_if_eqT 94 dM_walk_87 (by decide) hc ?_
              refine ax_iconst (0 : Int32) dM_walk_94 k32_0 ?_
              cases hf
              exact K
            · refine ax_if_eqF 94 dM_walk_87 (by decide) hc ?_
              refine ax_iconst (1 : Int32) dM_walk_90 k32_1 ?_
              refine ax_goto 95 dM_walk_91 (by decide) ?_
              cases hf
              exact K
        · refine ax_if_neT 153 dM_walk_33 (by decide) hc ?_
          refine ax_iload (i := 4) dM_walk_153 rfl ?_
          cases hf
          exact Hr _ _ dM_walk_155
      · refine ax_if_neT 36 dM_walk_28 (by decide) hc ?_
        refine ax_aload_n (i := 0) (some y0) dM_walk_36 rfl rfl ?_
        refine ax_iload_n (i := 1) dM_walk_37 rfl rfl ?_
        refine ax_iload_n (i := 2) dM_walk_38 rfl rfl ?_
        refine ax_iload (i := 5) dM_walk_39 rfl ?_
        replace hf := bd1_s hf
        obtain ⟨h5, e_h5, hf⟩ := hf
        obtain ⟨k_e_h5, e_h5⟩ := cv_s e_h5
        refine ax_callV (As := [.int y1, .int y2, .int z5]) (rest := []) (c_M_passFrom e_h5) ml_1302 cm_M_passFrom rfl k_e_h5 (Nat.le_trans (Nat.le_of_ble_eq_true rfl) hR1) (Nat.le_trans (Nat.le_of_ble_eq_true rfl) hR2) rfl rfl (Nat.le_of_ble_eq_true rfl) dM_walk_41 ?_
        refine ax_aload_n (i := 0) (some y0) dM_walk_44 rfl rfl ?_
        replace hf := bd1_s hf
        obtain ⟨r6, e_r6, hf⟩ := hf
        refine ax_getR fl_1018 rfl dM_walk_45 e_r6 ?_
        refine ax_bipush (25 : Int32) dM_walk_48 k8_25 ?_
        refine ax_iload_n (i := 1) dM_walk_50 rfl rfl ?_
        refine ax_imul dM_walk_51 ?_
        refine ax_aload_n (i := 0) (some y0) dM_walk_52 rfl rfl ?_
        replace hf := bd1_s hf
        obtain ⟨r7, e_r7, hf⟩ := hf
        refine ax_getR fl_1052 rfl dM_walk_53 e_r7 ?_
        refine ax_iload (i := 5) dM_walk_56 rfl ?_
        replace hf := bd1_s hf
        obtain ⟨a8, e_d, hf⟩ := hf
        subst e_d
        replace hf := bd1_s hf
        obtain ⟨x9, e_x9, hf⟩ := hf
        refine ax_iald dM_walk_58 e_x9 ?_
        refine ax_bipush (25 : Int32) dM_walk_59 k8_25 ?_
        refine ax_idiv dM_walk_61 (by decide) ?_
        refine ax_iadd dM_walk_62 ?_
        replace hf := bd1_s hf
        obtain ⟨a10, e_d, hf⟩ := hf
        subst e_d
        replace hf := bd1_s hf
        obtain ⟨x11, e_x11, hf⟩ := hf
        refine ax_zald dM_walk_63 e_x11 ?_
        replace hf := bd1_s hf
        obtain ⟨x18, hT, hf⟩ := hf
        have K : AW l E mi_M_walk R B Qf 95 [some (va_rf (some y0)), some (.int y1), some (.int y2), some (.int y3), some (.int z4), some (.int z5), none, none] [.int x18] h5 := by
          clear hT
          refine ax_istore (i := 6) [some (va_rf (some y0)), some (.int y1), some (.int y2), some (.int y3), some (.int z4), some (.int z5), some (.int x18), none] dM_walk_95 (Nat.le_of_ble_eq_true rfl) (Or.inr (c1i rfl)) rfl ?_
          refine ax_aload_n (i := 0) (some y0) dM_walk_97 rfl rfl ?_
          replace hf := bd1_s hf
          obtain ⟨x19, e_x19, hf⟩ := hf
          refine ax_getI fl_1058 rfl dM_walk_98 e_x19 ?_
          replace hf := bd1_s hf
          obtain ⟨x21, hT, hf⟩ := hf
          have K : AW l E mi_M_walk R B Qf 125 [some (va_rf (some y0)), some (.int y1), some (.int y2), some (.int y3), some (.int z4), some (.int z5), none, none] [.int x21] h5 := by
            clear hT
            refine ax_istore (i := 7) [some (va_rf (some y0)), some (.int y1), some (.int y2), some (.int y3), some (.int z4), some (.int z5), none, some (.int x21)] dM_walk_125 (Nat.le_of_ble_eq_true rfl) (Or.inr (c1n rfl)) rfl ?_
            refine ax_iload (i := 4) dM_walk_127 rfl ?_
            replace hf := ite_c hf
            rcases hf with ⟨hc, hf⟩ | ⟨hc, hf⟩
            · refine ax_if_neF 147 dM_walk_129 (by decide) hc ?_
              refine ax_iload (i := 7) dM_walk_132 rfl ?_
              replace hf := ite_c hf
              rcases hf with ⟨hc, hf⟩ | ⟨hc, hf⟩
              · refine ax_if_leF 147 dM_walk_134 (by decide) hc ?_
                refine ax_iload (i := 7) dM_walk_137 rfl ?_
                refine ax_istore (i := 4) [some (va_rf (some y0)), some (.int y1), some (.int y2), some (.int y3), some (.int x21), some (.int z5), none, some (.int x21)] dM_walk_139 (Nat.le_of_ble_eq_true rfl) (Or.inr (c1i rfl)) rfl ?_
                refine ax_aload_n (i := 0) (some y0) dM_walk_141 rfl rfl ?_
                refine ax_iload (i := 5) dM_walk_142 rfl ?_
                replace hf := bd1_s hf
                obtain ⟨h22, e_h22, hf⟩ := hf
                refine ax_putI fw_1060 rfl rfl dM_walk_144 e_h22 ?_
                refine ax_iinc (i := 5) (z5 + (1 : Int32)) [some (va_rf (some y0)), some (.int y1), some (.int y2), some (.int y3), some (.int x21), some (.int (z5 + (1 : Int32))), none, some (.int x21)] dM_walk_147 rfl (iic k32_1) (Or.inr (c1i rfl)) rfl ?_
                refine ax_goto 18 dM_walk_150 (by decide) ?_
                refine ax_mask [true, true, true, true, true, true, true, false] rfl [some (va_rf (some y0)), some (.int y1), some (.int y2), some (.int y3), some (.int x21), some (.int (z5 + (1 : Int32))), none, none] rfl ?_
                exact ih x21 (z5 + (1 : Int32)) h22 hf
              · refine ax_if_leT 147 dM_walk_134 (by decide) hc ?_
                refine ax_iinc (i := 5) (z5 + (1 : Int32)) [some (va_rf (some y0)), some (.int y1), some (.int y2), some (.int y3), some (.int z4), some (.int (z5 + (1 : Int32))), none, some (.int x21)] dM_walk_147 rfl (iic k32_1) (Or.inr (c1i rfl)) rfl ?_
                refine ax_goto 18 dM_walk_150 (by decide) ?_
                refine ax_mask [true, true, true, true, true, true, true, false] rfl [some (va_rf (some y0)), some (.int y1), some (.int y2), some (.int y3), some (.int z4), some (.int (z5 + (1 : Int32))), none, none] rfl ?_
                exact ih z4 (z5 + (1 : Int32)) h5 hf
            · refine ax_if_neT 147 dM_walk_129 (by decide) hc ?_
              refine ax_iinc (i := 5) (z5 + (1 : Int32)) [some (va_rf (some y0)), some (.int y1), some (.int y2), some (.int y3), some (.int z4), some (.int (z5 + (1 : Int32))), none, some (.int x21)] dM_walk_147 rfl (iic k32_1) (Or.inr (c1i rfl)) rfl ?_
              refine ax_goto 18 dM_walk_150 (by decide) ?_
              refine ax_mask [true, true, true, true, true, true, true, false] rfl [some (va_rf (some y0)), some (.int y1), some (.int y2), some (.int y3), some (.int z4), some (.int (z5 + (1 : Int32))), none, none] rfl ?_
              exact ih z4 (z5 + (1 : Int32)) h5 hf
          replace hf := hT
          clear hT
          replace hf := ite_c hf
          rcases hf with ⟨hc, hf⟩ | ⟨hc, hf⟩
          · refine ax_if_eqT 108 dM_walk_101 (by decide) hc ?_
            refine ax_aload_n (i := 0) (some y0) dM_walk_108 rfl rfl ?_
            replace hf := bd1_s hf
            obtain ⟨x20, e_x20, hf⟩ := hf
            refine ax_getI fl_1059 rfl dM_walk_109 e_x20 ?_
            replace hf := ite_c hf
            rcases hf with ⟨hc, hf⟩ | ⟨hc, hf⟩
            · refine ax_if_neF 124 dM_walk_112 (by decide) hc ?_
              refine ax_iload (i := 6) dM_walk_115 rfl ?_
              replace hf := ite_c hf
              rcases hf with ⟨hc, hf⟩ | ⟨hc, hf⟩
              · refine ax_if_neF 124 dM_walk_117 (by decide) hc ?_
                refine ax_iconst (1 : Int32) dM_walk_120 k32_1 ?_
                refine ax_goto 125 dM_walk_121 (by decide) ?_
                refine ax_mask [true, true, true, true, true, true, false, true] rfl [some (va_rf (some y0)), some (.int y1), some (.int y2), some (.int y3), some (.int z4), some (.int z5), none, none] rfl ?_
                cases hf
                exact K
              · refine ax_if_neT 124 dM_walk_117 (by decide) hc ?_
                refine ax_iconst (0 : Int32) dM_walk_124 k32_0 ?_
                refine ax_mask [true, true, true, true, true, true, false, true] rfl [some (va_rf (some y0)), some (.int y1), some (.int y2), some (.int y3), some (.int z4), some (.int z5), none, none] rfl ?_
                cases hf
                exact K
            · refine ax_if_neT 124 dM_walk_112 (by decide) hc ?_
              refine ax_iconst (0 : Int32) dM_walk_124 k32_0 ?_
              refine ax_mask [true, true, true, true, true, true, false, true] rfl [some (va_rf (some y0)), some (.int y1), some (.int y2), some (.int y3), some (.int z4), some (.int z5), none, none] rfl ?_
              cases hf
              exact K
          · refine ax_if_eqF 108 dM_walk_101 (by decide) hc ?_
            refine ax_iconst (2 : Int32) dM_walk_104 k32_2 ?_
            refine ax_goto 125 dM_walk_105 (by decide) ?_
            refine ax_mask [true, true, true, true, true, true, false, true] rfl [some (va_rf (some y0)), some (.int y1), some (.int y2), some (.int y3), some (.int z4), some (.int z5), none, none] rfl ?_
            cases hf
            exact K
        replace hf := hT
        clear hT
        replace hf := ite_c hf
        rcases hf with ⟨hc, hf⟩ | ⟨hc, hf⟩
        · refine ax_if_eqT 94 dM_walk_64 (by decide) hc ?_
          refine ax_iconst (0 : Int32) dM_walk_94 k32_0 ?_
          cases hf
          exact K
        · refine ax_if_eqF 94 dM_walk_64 (by decide) hc ?_
          refine ax_aload_n (i := 0) (some y0) dM_walk_67 rfl rfl ?_
          replace hf := bd1_s hf
          obtain ⟨r12, e_r12, hf⟩ := hf
          refine ax_getR fl_1018 rfl dM_walk_68 e_r12 ?_
          refine ax_bipush (25 : Int32) dM_walk_71 k8_25 ?_
          refine ax_iload_n (i := 2) dM_walk_73 rfl rfl ?_
          refine ax_imul dM_walk_74 ?_
          refine ax_aload_n (i := 0) (some y0) dM_walk_75 rfl rfl ?_
          replace hf := bd1_s hf
          obtain ⟨r13, e_r13, hf⟩ := hf
          refine ax_getR fl_1052 rfl dM_walk_76 e_r13 ?_
          refine ax_iload (i := 5) dM_walk_79 rfl ?_
          replace hf := bd1_s hf
          obtain ⟨a14, e_d, hf⟩ := hf
          subst e_d
          replace hf := bd1_s hf
          obtain ⟨x15, e_x15, hf⟩ := hf
          refine ax_iald dM_walk_81 e_x15 ?_
          refine ax_bipush (25 : Int32) dM_walk_82 k8_25 ?_
          refine ax_irem dM_walk_84 (by decide) ?_
          refine ax_iadd dM_walk_85 ?_
          replace hf := bd1_s hf
          obtain ⟨a16, e_d, hf⟩ := hf
          subst e_d
          replace hf := bd1_s hf
          obtain ⟨x17, e_x17, hf⟩ := hf
          refine ax_zald dM_walk_86 e_x17 ?_
          replace hf := ite_c hf
          rcases hf with ⟨hc, hf⟩ | ⟨hc, hf⟩
          · refine ax_if_eqT 94 dM_walk_87 (by decide) hc ?_
            refine ax_iconst (0 : Int32) dM_walk_94 k32_0 ?_
            cases hf
            exact K
          · refine ax_if_eqF 94 dM_walk_87 (by decide) hc ?_
            refine ax_iconst (1 : Int32) dM_walk_90 k32_1 ?_
            refine ax_goto 95 dM_walk_91 (by decide) ?_
            cases hf
            exact K
    · refine ax_icmp_geT 153 dM_walk_24 (by decide) hc ?_
      refine ax_iload (i := 4) dM_walk_153 rfl ?_
      cases hf
      exact Hr _ _ dM_walk_155
theorem v_M_walk {l : Launch} {E : EN} {R : Room} {B : (Nat × Nat) × (Nat × Nat)} {Qf : QF} {h0 : AH} {o : Nat} {p1 : Int32} {p2 : Int32} {p3 : Int32} {r : Int32} {hF : AH} (hR1 : 4 ≤ R.frames) (hR2 : 256 ≤ R.locals) (Hr : ∀ (pc : Nat) (L : List (Option Value)), decode mi_M_walk.2.1 pc = .ok (.ireturn, 1) → AW l E mi_M_walk R B Qf pc L [.int r] hF) (hf : f_M_walk h0 o p1 p2 p3 = some (r, hF)) : AW l E mi_M_walk R B Qf 0 [some (va_rf (some o)), some (.int p1), some (.int p2), some (.int p3), none, none, none, none] [] h0 := by
  unfold f_M_walk at hf
  refine ax_aload_n (i := 0) (some o) dM_walk_0 rfl rfl ?_
  replace hf := bd1_s hf
  obtain ⟨h1, e_h1, hf⟩ := hf
  obtain ⟨k_e_h1, e_h1⟩ := cv_s e_h1
  refine ax_callV (As := []) (rest := []) (c_M_restart e_h1) ml_1293 cm_M_restart rfl k_e_h1 (Nat.le_trans (Nat.le_of_ble_eq_true rfl) hR1) (Nat.le_trans (Nat.le_of_ble_eq_true rfl) hR2) rfl rfl (Nat.le_of_ble_eq_true rfl) dM_walk_1 ?_
  refine ax_aload_n (i := 0) (some o) dM_walk_4 rfl rfl ?_
  refine ax_iconst (0 : Int32) dM_walk_5 k32_0 ?_
  refine ax_iconst (0 : Int32) dM_walk_6 k32_0 ?_
  refine ax_iconst (0 : Int32) dM_walk_7 k32_0 ?_
  replace hf := bd2_s hf
  obtain ⟨x2, h3, e_x2, hf⟩ := hf
  obtain ⟨k_e_x2, e_x2⟩ := cv_s e_x2
  refine ax_callV (As := [.int (0 : Int32), .int (0 : Int32), .int (0 : Int32)]) (rest := []) (c_M_isNew e_x2) ml_1297 cm_M_isNew rfl k_e_x2 (Nat.le_trans (Nat.le_of_ble_eq_true rfl) hR1) (Nat.le_trans (Nat.le_of_ble_eq_true rfl) hR2) rfl rfl (Nat.le_of_ble_eq_true rfl) dM_walk_8 ?_
  refine ax_pop dM_walk_11 rfl ?_
  refine ax_iconst (0 : Int32) dM_walk_12 k32_0 ?_
  refine ax_istore (i := 4) [some (va_rf (some o)), some (.int p1), some (.int p2), some (.int p3), some (.int (0 : Int32)), none, none, none] dM_walk_13 (Nat.le_of_ble_eq_true rfl) (Or.inr (c1i rfl)) rfl ?_
  refine ax_iconst (0 : Int32) dM_walk_15 k32_0 ?_
  refine ax_istore (i := 5) [some (va_rf (some o)), some (.int p1), some (.int p2), some (.int p3), some (.int (0 : Int32)), some (.int (0 : Int32)), none, none] dM_walk_16 (Nat.le_of_ble_eq_true rfl) (Or.inr (c1i rfl)) rfl ?_
  refine w_M_walk_L18 hR1 hR2 Hr FU (0 : Int32) (0 : Int32) h3 hf
theorem c_M_walk {l : Launch} {E : EN} {h0 : AH} {o : Nat} {p1 : Int32} {p2 : Int32} {p3 : Int32} {r : Int32} {hF : AH} (hf : f_M_walk h0 o p1 p2 p3 = some (r, hF)) : AM l E 4 mi_M_walk [va_rf (some o), .int p1, .int p2, .int p3] h0 (some (.int r)) hF :=
  am_of2 [(va_rf (some o), false), (.int p1, false), (.int p2, false), (.int p3, false)] 4 ⟨cat_rf _, rfl, rfl, rfl, trivial⟩ rfl rfl (v_M_walk (Nat.le_refl _) (Nat.le_refl _) (fun pc L hd => ax_iret rfl hd rfl) hf)
theorem v_M_sizeOf {l : Launch} {E : EN} {R : Room} {B : (Nat × Nat) × (Nat × Nat)} {Qf : QF} {h0 : AH} {p1 : Int32} {r : Int32} (hR1 : 1 ≤ R.frames) (hR2 : 64 ≤ R.locals) (Hr : ∀ (pc : Nat) (L : List (Option Value)), decode mi_M_sizeOf.2.1 pc = .ok (.ireturn, 1) → AW l E mi_M_sizeOf R B Qf pc L [.int r] h0) (hf : f_M_sizeOf h0 p1 = some r) : AW l E mi_M_sizeOf R B Qf 0 [some (.int p1)] [] h0 := by
  unfold f_M_sizeOf at hf
  refine ax_iload_n (i := 0) dM_sizeOf_0 rfl rfl ?_
  replace hf := ite_c hf
  rcases hf with ⟨hc, hf⟩ | ⟨hc, hf⟩
  · refine ax_if_neF 8 dM_sizeOf_1 (by decide) hc ?_
    refine ax_iconst (0 : Int32) dM_sizeOf_4 k32_0 ?_
    refine ax_goto 19 dM_sizeOf_5 (by decide) ?_
    cases hf
    exact Hr _ _ dM_sizeOf_19
  · refine ax_if_neT 8 dM_sizeOf_1 (by decide) hc ?_
    refine ax_iload_n (i := 0) dM_sizeOf_8 rfl rfl ?_
    refine ax_bipush (9 : Int32) dM_sizeOf_9 k8_9 ?_
    replace hf := ite_c hf
    rcases hf with ⟨hc, hf⟩ | ⟨hc, hf⟩
    · refine ax_icmp_geF 18 dM_sizeOf_11 (by decide) hc ?_
      refine ax_iconst (1 : Int32) dM_sizeOf_14 k32_1 ?_
      refine ax_goto 19 dM_sizeOf_15 (by decide) ?_
      cases hf
      exact Hr _ _ dM_sizeOf_19
    · refine ax_icmp_geT 18 dM_sizeOf_11 (by decide) hc ?_
      refine ax_iconst (2 : Int32) dM_sizeOf_18 k32_2 ?_
      cases hf
      exact Hr _ _ dM_sizeOf_19
theorem c_M_sizeOf {l : Launch} {E : EN} {h0 : AH} {p1 : Int32} {r : Int32} (hf : f_M_sizeOf h0 p1 = some r) : AM l E 1 mi_M_sizeOf [.int p1] h0 (some (.int r)) h0 :=
  am_of2 [(.int p1, false)] 0 ⟨rfl, trivial⟩ rfl rfl (v_M_sizeOf (Nat.le_refl _) (Nat.le_refl _) (fun pc L hd => ax_iret rfl hd rfl) hf)
theorem v_M_behind {l : Launch} {E : EN} {R : Room} {B : (Nat × Nat) × (Nat × Nat)} {Qf : QF} {h0 : AH} {p1 : Int32} {p2 : Int32} {r : Int32} (hR1 : 1 ≤ R.frames) (hR2 : 64 ≤ R.locals) (Hr : ∀ (pc : Nat) (L : List (Option Value)), decode mi_M_behind.2.1 pc = .ok (.ireturn, 1) → AW l E mi_M_behind R B Qf pc L [.int r] h0) (hf : f_M_behind h0 p1 p2 = some r) : AW l E mi_M_behind R B Qf 0 [some (.int p1), some (.int p2)] [] h0 := by
  unfold f_M_behind at hf
  refine ax_iload_n (i := 0) dM_behind_0 rfl rfl ?_
  replace hf := ite_c hf
  rcases hf with ⟨hc, hf⟩ | ⟨hc, hf⟩
  · refine ax_if_neF 10 dM_behind_1 (by decide) hc ?_
    refine ax_iload_n (i := 1) dM_behind_4 rfl rfl ?_
    refine ax_iconst (1 : Int32) dM_behind_5 k32_1 ?_
    refine ax_iadd dM_behind_6 ?_
    refine ax_goto 21 dM_behind_7 (by decide) ?_
    cases hf
    exact Hr _ _ dM_behind_21
  · refine ax_if_neT 10 dM_behind_1 (by decide) hc ?_
    refine ax_bipush (9 : Int32) dM_behind_10 k8_9 ?_
    refine ax_bipush (8 : Int32) dM_behind_12 k8_8 ?_
    refine ax_iload_n (i := 0) dM_behind_14 rfl rfl ?_
    refine ax_iconst (1 : Int32) dM_behind_15 k32_1 ?_
    refine ax_isub dM_behind_16 ?_
    refine ax_imul dM_behind_17 ?_
    refine ax_iadd dM_behind_18 ?_
    refine ax_iload_n (i := 1) dM_behind_19 rfl rfl ?_
    refine ax_iadd dM_behind_20 ?_
    cases hf
    exact Hr _ _ dM_behind_21
theorem c_M_behind {l : Launch} {E : EN} {h0 : AH} {p1 : Int32} {p2 : Int32} {r : Int32} (hf : f_M_behind h0 p1 p2 = some r) : AM l E 1 mi_M_behind [.int p1, .int p2] h0 (some (.int r)) h0 :=
  am_of2 [(.int p1, false), (.int p2, false)] 0 ⟨rfl, rfl, trivial⟩ rfl rfl (v_M_behind (Nat.le_refl _) (Nat.le_refl _) (fun pc L hd => ax_iret rfl hd rfl) hf)
theorem v_M_code {l : Launch} {E : EN} {R : Room} {B : (Nat × Nat) × (Nat × Nat)} {Qf : QF} {h0 : AH} {p1 : Int32} {p2 : Int32} {p3 : Int32} {p4 : Int32} {r : Int32} (hR1 : 1 ≤ R.frames) (hR2 : 64 ≤ R.locals) (Hr : ∀ (pc : Nat) (L : List (Option Value)), decode mi_M_code.2.1 pc = .ok (.ireturn, 1) → AW l E mi_M_code R B Qf pc L [.int r] h0) (hf : f_M_code h0 p1 p2 p3 p4 = some r) : AW l E mi_M_code R B Qf 0 [some (.int p1), some (.int p2), some (.int p3), some (.int p4)] [] h0 := by
  unfold f_M_code at hf
  refine ax_iload_n (i := 0) dM_code_0 rfl rfl ?_
  refine ax_bipush (25 : Int32) dM_code_1 k8_25 ?_
  refine ax_imul dM_code_3 ?_
  refine ax_iload_n (i := 1) dM_code_4 rfl rfl ?_
  refine ax_iadd dM_code_5 ?_
  refine ax_bipush (73 : Int32) dM_code_6 k8_73 ?_
  refine ax_imul dM_code_8 ?_
  refine ax_iload_n (i := 2) dM_code_9 rfl rfl ?_
  refine ax_iadd dM_code_10 ?_
  refine ax_bipush (73 : Int32) dM_code_11 k8_73 ?_
  refine ax_imul dM_code_13 ?_
  refine ax_iload_n (i := 3) dM_code_14 rfl rfl ?_
  refine ax_iadd dM_code_15 ?_
  cases hf
  exact Hr _ _ dM_code_16
theorem c_M_code {l : Launch} {E : EN} {h0 : AH} {p1 : Int32} {p2 : Int32} {p3 : Int32} {p4 : Int32} {r : Int32} (hf : f_M_code h0 p1 p2 p3 p4 = some r) : AM l E 1 mi_M_code [.int p1, .int p2, .int p3, .int p4] h0 (some (.int r)) h0 :=
  am_of2 [(.int p1, false), (.int p2, false), (.int p3, false), (.int p4, false)] 0 ⟨rfl, rfl, rfl, rfl, trivial⟩ rfl rfl (v_M_code (Nat.le_refl _) (Nat.le_refl _) (fun pc L hd => ax_iret rfl hd rfl) hf)
theorem v_M_come {l : Launch} {E : EN} {R : Room} {B : (Nat × Nat) × (Nat × Nat)} {Qf : QF} {h0 : AH} {o : Nat} {p1 : Int32} {p2 : Int32} {p3 : Int32} {hF : AH} (hR1 : 2 ≤ R.frames) (hR2 : 128 ≤ R.locals) (Hr : ∀ (pc : Nat) (L : List (Option Value)), decode mi_M_come.2.1 pc = .ok (.return_, 1) → AW l E mi_M_come R B Qf pc L [] hF) (hf : f_M_come h0 o p1 p2 p3 = some hF) : AW l E mi_M_come R B Qf 0 [some (va_rf (some o)), some (.int p1), some (.int p2), some (.int p3)] [] h0 := by
  unfold f_M_come at hf
  refine ax_aload_n (i := 0) (some o) dM_come_0 rfl rfl ?_
  refine ax_iconst (1 : Int32) dM_come_1 k32_1 ?_
  replace hf := bd1_s hf
  obtain ⟨h1, e_h1, hf⟩ := hf
  refine ax_putZ fw_1059 rfl rfl dM_come_2 e_h1 ?_
  refine ax_aload_n (i := 0) (some o) dM_come_5 rfl rfl ?_
  refine ax_aload_n (i := 0) (some o) dM_come_6 rfl rfl ?_
  replace hf := bd1_s hf
  obtain ⟨x2, e_x2, hf⟩ := hf
  refine ax_getI fl_1061 rfl dM_come_7 e_x2 ?_
  replace hf := bd2_s hf
  obtain ⟨x5, h6, hT, hf⟩ := hf
  have K : AW l E mi_M_come R B Qf 28 [none, none, none, none] [.int x5, va_rf (some o)] h6 := by
    clear hT
    replace hf := bd1_s hf
    obtain ⟨h7, e_h7, hf⟩ := hf
    refine ax_putZ fw_1061 rfl rfl dM_come_28 e_h7 ?_
    cases hf
    exact Hr _ _ dM_come_31
  replace hf := hT
  clear hT
  replace hf := ite_c hf
  rcases hf with ⟨hc, hf⟩ | ⟨hc, hf⟩
  · refine ax_if_neF 23 dM_come_10 (by decide) hc ?_
    refine ax_aload_n (i := 0) (some o) dM_come_13 rfl rfl ?_
    refine ax_iload_n (i := 1) dM_come_14 rfl rfl ?_
    refine ax_iload_n (i := 2) dM_come_15 rfl rfl ?_
    refine ax_iload_n (i := 3) dM_come_16 rfl rfl ?_
    replace hf := bd2_s hf
    obtain ⟨x3, h4, e_x3, hf⟩ := hf
    obtain ⟨k_e_x3, e_x3⟩ := cv_s e_x3
    refine ax_callV (As := [.int p1, .int p2, .int p3]) (rest := [va_rf (some o)]) (c_M_isNew e_x3) ml_1297 cm_M_isNew rfl k_e_x3 (Nat.le_trans (Nat.le_of_ble_eq_true rfl) hR1) (Nat.le_trans (Nat.le_of_ble_eq_true rfl) hR2) rfl rfl (Nat.le_of_ble_eq_true rfl) dM_come_17 ?_
    replace hf := ite_c hf
    rcases hf with ⟨hc, hf⟩ | ⟨hc, hf⟩
    · refine ax_if_neF 27 dM_come_20 (by decide) hc ?_
      refine ax_iconst (1 : Int32) dM_come_23 k32_1 ?_
      refine ax_goto 28 dM_come_24 (by decide) ?_
      refine ax_mask [false, false, false, false] rfl [none, none, none, none] rfl ?_
      cases hf
      exact K
    · refine ax_if_neT 27 dM_come_20 (by decide) hc ?_
      refine ax_iconst (0 : Int32) dM_come_27 k32_0 ?_
      refine ax_mask [false, false, false, false] rfl [none, none, none, none] rfl ?_
      cases hf
      exact K
  · refine ax_if_neT 23 dM_come_10 (by decide) hc ?_
    refine ax_iconst (1 : Int32) dM_come_23 k32_1 ?_
    refine ax_goto 28 dM_come_24 (by decide) ?_
    refine ax_mask [false, false, false, false] rfl [none, none, none, none] rfl ?_
    cases hf
    exact K
theorem c_M_come {l : Launch} {E : EN} {h0 : AH} {o : Nat} {p1 : Int32} {p2 : Int32} {p3 : Int32} {hF : AH} (hf : f_M_come h0 o p1 p2 p3 = some hF) : AM l E 2 mi_M_come [va_rf (some o), .int p1, .int p2, .int p3] h0 none hF :=
  am_of2 [(va_rf (some o), false), (.int p1, false), (.int p2, false), (.int p3, false)] 0 ⟨cat_rf _, rfl, rfl, rfl, trivial⟩ rfl rfl (v_M_come (Nat.le_refl _) (Nat.le_refl _) (fun pc L hd => ax_vret rfl hd rfl) hf)
theorem v_M_front {l : Launch} {E : EN} {R : Room} {B : (Nat × Nat) × (Nat × Nat)} {Qf : QF} {h0 : AH} {p1 : Int32} {r : Int32} (hR1 : 1 ≤ R.frames) (hR2 : 64 ≤ R.locals) (Hr : ∀ (pc : Nat) (L : List (Option Value)), decode mi_M_front.2.1 pc = .ok (.ireturn, 1) → AW l E mi_M_front R B Qf pc L [.int r] h0) (hf : f_M_front h0 p1 = some r) : AW l E mi_M_front R B Qf 0 [some (.int p1)] [] h0 := by
  unfold f_M_front at hf
  refine ax_iload_n (i := 0) dM_front_0 rfl rfl ?_
  refine ax_bipush (9 : Int32) dM_front_1 k8_9 ?_
  replace hf := ite_c hf
  rcases hf with ⟨hc, hf⟩ | ⟨hc, hf⟩
  · refine ax_icmp_geF 12 dM_front_3 (by decide) hc ?_
    refine ax_iload_n (i := 0) dM_front_6 rfl rfl ?_
    refine ax_iconst (1 : Int32) dM_front_7 k32_1 ?_
    refine ax_isub dM_front_8 ?_
    refine ax_goto 19 dM_front_9 (by decide) ?_
    cases hf
    exact Hr _ _ dM_front_19
  · refine ax_icmp_geT 12 dM_front_3 (by decide) hc ?_
    refine ax_iload_n (i := 0) dM_front_12 rfl rfl ?_
    refine ax_bipush (9 : Int32) dM_front_13 k8_9 ?_
    refine ax_isub dM_front_15 ?_
    refine ax_bipush (8 : Int32) dM_front_16 k8_8 ?_
    refine ax_idiv dM_front_18 (by decide) ?_
    cases hf
    exact Hr _ _ dM_front_19
theorem c_M_front {l : Launch} {E : EN} {h0 : AH} {p1 : Int32} {r : Int32} (hf : f_M_front h0 p1 = some r) : AM l E 1 mi_M_front [.int p1] h0 (some (.int r)) h0 :=
  am_of2 [(.int p1, false)] 0 ⟨rfl, trivial⟩ rfl rfl (v_M_front (Nat.le_refl _) (Nat.le_refl _) (fun pc L hd => ax_iret rfl hd rfl) hf)
theorem v_M_rest {l : Launch} {E : EN} {R : Room} {B : (Nat × Nat) × (Nat × Nat)} {Qf : QF} {h0 : AH} {p1 : Int32} {r : Int32} (hR1 : 1 ≤ R.frames) (hR2 : 64 ≤ R.locals) (Hr : ∀ (pc : Nat) (L : List (Option Value)), decode mi_M_rest.2.1 pc = .ok (.ireturn, 1) → AW l E mi_M_rest R B Qf pc L [.int r] h0) (hf : f_M_rest h0 p1 = some r) : AW l E mi_M_rest R B Qf 0 [some (.int p1)] [] h0 := by
  unfold f_M_rest at hf
  refine ax_iload_n (i := 0) dM_rest_0 rfl rfl ?_
  refine ax_bipush (9 : Int32) dM_rest_1 k8_9 ?_
  replace hf := ite_c hf
  rcases hf with ⟨hc, hf⟩ | ⟨hc, hf⟩
  · refine ax_icmp_geF 10 dM_rest_3 (by decide) hc ?_
    refine ax_iconst (0 : Int32) dM_rest_6 k32_0 ?_
    refine ax_goto 19 dM_rest_7 (by decide) ?_
    cases hf
    exact Hr _ _ dM_rest_19
  · refine ax_icmp_geT 10 dM_rest_3 (by decide) hc ?_
    refine ax_iload_n (i := 0) dM_rest_10 rfl rfl ?_
    refine ax_bipush (9 : Int32) dM_rest_11 k8_9 ?_
    refine ax_isub dM_rest_13 ?_
    refine ax_bipush (8 : Int32) dM_rest_14 k8_8 ?_
    refine ax_irem dM_rest_16 (by decide) ?_
    refine ax_iconst (1 : Int32) dM_rest_17 k32_1 ?_
    refine ax_iadd dM_rest_18 ?_
    cases hf
    exact Hr _ _ dM_rest_19
theorem c_M_rest {l : Launch} {E : EN} {h0 : AH} {p1 : Int32} {r : Int32} (hf : f_M_rest h0 p1 = some r) : AM l E 1 mi_M_rest [.int p1] h0 (some (.int r)) h0 :=
  am_of2 [(.int p1, false)] 0 ⟨rfl, trivial⟩ rfl rfl (v_M_rest (Nat.le_refl _) (Nat.le_refl _) (fun pc L hd => ax_iret rfl hd rfl) hf)
