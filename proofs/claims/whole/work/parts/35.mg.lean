theorem w_M_plan_L86 {l : Launch} {E : EN} {R : Room} {B : (Nat × Nat) × (Nat × Nat)} {Qf : QF} {ρ : Type} {res : ρ} (hR1 : 4 ≤ R.frames) (hR2 : 256 ≤ R.locals) {y0 : Nat} {y1 : Int32} {y2 : Int32} {y3 : Int32} {y4 : Int32} {y5 : Int32} {y6 : Int32} {y7 : Int32} {y8 : Int32} {k : AH → Option (ρ)} (hk : ∀ (h : AH), k h = some res → AW l E mi_M_plan R B Qf 120 [some (va_rf (some y0)), some (.int y1), some (.int y2), some (.int y3), some (.int y4), some (.int y5), some (.int y6), some (.int y7), some (.int y8), none, none, none] [] h) : ∀ (n : Nat) (z9 : Int32) (z10 : Int32) (h : AH), f_M_plan_L86 y0 y1 y2 y3 y4 y5 y6 y7 y8 k n z9 z10 h = some res → AW l E mi_M_plan R B Qf 86 [some (va_rf (some y0)), some (.int y1), some (.int y2), some (.int y3), some (.int y4), some (.int y5), some (.int y6), some (.int y7), some (.int y8), some (.int z9), some (.int z10), none] [] h := by
  intro n
  induction n with
  | zero => intro z9 z10 h hf; cases hf
  | succ n ih =>
    intro z9 z10 h hf
    rw [f_M_plan_L86] at hf
    refine ax_iload (i := 10) dM_plan_86 rfl ?_
    replace hf := ite_c hf
    rcases hf with ⟨hc, hf⟩ | ⟨hc, hf⟩
    · refine ax_if_ltT 120 dM_plan_88 (by decide) hc ?_
      refine ax_mask [true, true, true, true, true, true, true, true, true, false, false, true] rfl [some (va_rf (some y0)), some (.int y1), some (.int y2), some (.int y3), some (.int y4), some (.int y5), some (.int y6), some (.int y7), some (.int y8), none, none, none] rfl ?_
      exact hk h hf
    · refine ax_if_ltF 120 dM_plan_88 (by decide) hc ?_
      refine ax_aload_n (i := 0) (some y0) dM_plan_91 rfl rfl ?_
      replace hf := bd1_s hf
      obtain ⟨r8, e_r8, hf⟩ := hf
      refine ax_getR fl_1066 rfl dM_plan_92 e_r8 ?_
      refine ax_iload (i := 10) dM_plan_95 rfl ?_
      refine ax_iload (i := 9) dM_plan_97 rfl ?_
      refine ax_aload_n (i := 0) (some y0) dM_plan_99 rfl rfl ?_
      replace hf := bd1_s hf
      obtain ⟨x9, e_x9, hf⟩ := hf
      refine ax_getI fl_1022 rfl dM_plan_100 e_x9 ?_
      replace hf := ite_s hf
      obtain ⟨e_g103, hf⟩ := hf
      refine ax_irem dM_plan_103 e_g103 ?_
      replace hf := bd1_s hf
      obtain ⟨a10, e_d, hf⟩ := hf
      subst e_d
      replace hf := bd1_s hf
      obtain ⟨h11, e_h11, hf⟩ := hf
      refine ax_iast dM_plan_104 e_h11 ?_
      refine ax_iload (i := 9) dM_plan_105 rfl ?_
      refine ax_aload_n (i := 0) (some y0) dM_plan_107 rfl rfl ?_
      replace hf := bd1_s hf
      obtain ⟨x12, e_x12, hf⟩ := hf
      refine ax_getI fl_1022 rfl dM_plan_108 e_x12 ?_
      replace hf := ite_s hf
      obtain ⟨e_g111, hf⟩ := hf
      refine ax_idiv dM_plan_111 e_g111 ?_
      replace hf := bd1_s hf
      obtain ⟨x13, e_x13, hf⟩ := hf
      refine ax_nmI (Option.some.inj e_x13) ?_
      refine ax_istore (i := 9) [some (va_rf (some y0)), some (.int y1), some (.int y2), some (.int y3), some (.int y4), some (.int y5), some (.int y6), some (.int y7), some (.int y8), some (.int x13), some (.int z10), none] dM_plan_112 (Nat.le_of_ble_eq_true rfl) (Or.inr (c1i rfl)) rfl ?_
      refine ax_iinc (i := 10) (z10 + (-1 : Int32)) [some (va_rf (some y0)), some (.int y1), some (.int y2), some (.int y3), some (.int y4), some (.int y5), some (.int y6), some (.int y7), some (.int y8), some (.int x13), some (.int (z10 + (-1 : Int32))), none] dM_plan_114 rfl (iic k32_m1) (Or.inr (c1i rfl)) rfl ?_
      refine ax_goto 86 dM_plan_117 (by decide) ?_
      exact ih x13 (z10 + (-1 : Int32)) h11 hf
theorem w_M_plan_L182 {l : Launch} {E : EN} {R : Room} {B : (Nat × Nat) × (Nat × Nat)} {Qf : QF} {ρ : Type} {res : ρ} (hR1 : 4 ≤ R.frames) (hR2 : 256 ≤ R.locals) {y0 : Nat} {y1 : Int32} {y2 : Int32} {y3 : Int32} {y4 : Int32} {y5 : Int32} {y6 : Int32} {y7 : Int32} {y8 : Int32} {k : AH → Option (ρ)} (hk : ∀ (h : AH), k h = some res → AW l E mi_M_plan R B Qf 209 [some (va_rf (some y0)), some (.int y1), some (.int y2), some (.int y3), some (.int y4), some (.int y5), some (.int y6), some (.int y7), some (.int y8), none, none, none] [] h) : ∀ (n : Nat) (z11 : Int32) (h : AH), f_M_plan_L182 y0 y1 y2 y3 y4 y5 y6 y7 y8 k n z11 h = some res → AW l E mi_M_plan R B Qf 182 [some (va_rf (some y0)), some (.int y1), some (.int y2), some (.int y3), some (.int y4), some (.int y5), some (.int y6), some (.int y7), some (.int y8), none, none, some (.int z11)] [] h := by
  intro n
  induction n with
  | zero => intro z11 h hf; cases hf
  | succ n ih =>
    intro z11 h hf
    rw [f_M_plan_L182] at hf
    refine ax_iload (i := 11) dM_plan_182 rfl ?_
    refine ax_iload (i := 7) dM_plan_184 rfl ?_
    replace hf := ite_c hf
    rcases hf with ⟨hc, hf⟩ | ⟨hc, hf⟩
    · refine ax_icmp_geF 209 dM_plan_186 (by decide) hc ?_
      refine ax_aload_n (i := 0) (some y0) dM_plan_189 rfl rfl ?_
      replace hf := bd1_s hf
      obtain ⟨r21, e_r21, hf⟩ := hf
      refine ax_getR fl_1067 rfl dM_plan_190 e_r21 ?_
      refine ax_iload (i := 11) dM_plan_193 rfl ?_
      refine ax_aload_n (i := 0) (some y0) dM_plan_195 rfl rfl ?_
      replace hf := bd1_s hf
      obtain ⟨r22, e_r22, hf⟩ := hf
      refine ax_getR fl_1066 rfl dM_plan_196 e_r22 ?_
      refine ax_iload (i := 11) dM_plan_199 rfl ?_
      replace hf := bd1_s hf
      obtain ⟨a23, e_d, hf⟩ := hf
      subst e_d
      replace hf := bd1_s hf
      obtain ⟨x24, e_x24, hf⟩ := hf
      refine ax_iald dM_plan_201 e_x24 ?_
      replace hf := bd1_s hf
      obtain ⟨a25, e_d, hf⟩ := hf
      subst e_d
      replace hf := bd1_s hf
      obtain ⟨h26, e_h26, hf⟩ := hf
      refine ax_iast dM_plan_202 e_h26 ?_
      refine ax_iinc (i := 11) (z11 + (1 : Int32)) [some (va_rf (some y0)), some (.int y1), some (.int y2), some (.int y3), some (.int y4), some (.int y5), some (.int y6), some (.int y7), some (.int y8), none, none, some (.int (z11 + (1 : Int32)))] dM_plan_203 rfl (iic k32_1) (Or.inr (c1n rfl)) rfl ?_
      refine ax_goto 182 dM_plan_206 (by decide) ?_
      exact ih (z11 + (1 : Int32)) h26 hf
    · refine ax_icmp_geT 209 dM_plan_186 (by decide) hc ?_
      refine ax_mask [true, true, true, true, true, true, true, true, true, true, true, false] rfl [some (va_rf (some y0)), some (.int y1), some (.int y2), some (.int y3), some (.int y4), some (.int y5), some (.int y6), some (.int y7), some (.int y8), none, none, none] rfl ?_
      exact hk h hf
theorem w_M_plan_L69 {l : Launch} {E : EN} {R : Room} {B : (Nat × Nat) × (Nat × Nat)} {Qf : QF} {ρ : Type} {res : ρ} (hR1 : 4 ≤ R.frames) (hR2 : 256 ≤ R.locals) {y0 : Nat} {y1 : Int32} {y2 : Int32} {y3 : Int32} {y6 : Int32} {y7 : Int32} {k : Int32 → Int32 → AH → Option (ρ)} (hk : ∀ (z4 : Int32) (z5 : Int32) (h : AH), k z4 z5 h = some res → AW l E mi_M_plan R B Qf 215 [some (va_rf (some y0)), some (.int y1), some (.int y2), some (.int y3), some (.int z4), some (.int z5), some (.int y6), some (.int y7), none, none, none, none] [] h) : ∀ (n : Nat) (z4 : Int32) (z5 : Int32) (z8 : Int32) (h : AH), f_M_plan_L69 y0 y1 y2 y3 y6 y7 k n z4 z5 z8 h = some res → AW l E mi_M_plan R B Qf 69 [some (va_rf (some y0)), some (.int y1), some (.int y2), some (.int y3), some (.int z4), some (.int z5), some (.int y6), some (.int y7), some (.int z8), none, none, none] [] h := by
  intro n
  induction n with
  | zero => intro z4 z5 z8 h hf; cases hf
  | succ n ih =>
    intro z4 z5 z8 h hf
    rw [f_M_plan_L69] at hf
    refine ax_iload (i := 8) dM_plan_69 rfl ?_
    refine ax_iload (i := 6) dM_plan_71 rfl ?_
    replace hf := ite_c hf
    rcases hf with ⟨hc, hf⟩ | ⟨hc, hf⟩
    · refine ax_icmp_geF 215 dM_plan_73 (by decide) hc ?_
      refine ax_iload (i := 8) dM_plan_76 rfl ?_
      refine ax_istore (i := 9) [some (va_rf (some y0)), some (.int y1), some (.int y2), some (.int y3), some (.int z4), some (.int z5), some (.int y6), some (.int y7), some (.int z8), some (.int z8), none, none] dM_plan_78 (Nat.le_of_ble_eq_true rfl) (Or.inr (c1i rfl)) rfl ?_
      refine ax_iload (i := 7) dM_plan_80 rfl ?_
      refine ax_iconst (1 : Int32) dM_plan_82 k32_1 ?_
      refine ax_isub dM_plan_83 ?_
      replace hf := bd1_s hf
      obtain ⟨x7, e_x7, hf⟩ := hf
      refine ax_nmI (Option.some.inj e_x7) ?_
      refine ax_istore (i := 10) [some (va_rf (some y0)), some (.int y1), some (.int y2), some (.int y3), some (.int z4), some (.int z5), some (.int y6), some (.int y7), some (.int z8), some (.int z8), some (.int x7), none] dM_plan_84 (Nat.le_of_ble_eq_true rfl) (Or.inr (c1i rfl)) rfl ?_
      refine w_M_plan_L86 hR1 hR2 (fun h14 hf => ?_) FU z8 x7 h hf
      refine ax_aload_n (i := 0) (some y0) dM_plan_120 rfl rfl ?_
      refine ax_aload_n (i := 0) (some y0) dM_plan_121 rfl rfl ?_
      replace hf := bd1_s hf
      obtain ⟨r15, e_r15, hf⟩ := hf
      refine ax_getR fl_1066 rfl dM_plan_122 e_r15 ?_
      refine ax_iload (i := 7) dM_plan_125 rfl ?_
      replace hf := bd1_s hf
      obtain ⟨x16, e_x16, hf⟩ := hf
      obtain ⟨k_e_x16, e_x16⟩ := cv_s e_x16
      refine ax_callV (As := [va_rf r15, .int y7]) (rest := []) (c_M_pricesOf e_x16) ml_1472 cm_M_pricesOf rfl k_e_x16 (Nat.le_trans (Nat.le_of_ble_eq_true rfl) hR1) (Nat.le_trans (Nat.le_of_ble_eq_true rfl) hR2) rfl rfl (Nat.le_of_ble_eq_true rfl) dM_plan_127 ?_
      refine ax_istore (i := 10) [some (va_rf (some y0)), some (.int y1), some (.int y2), some (.int y3), some (.int z4), some (.int z5), some (.int y6), some (.int y7), some (.int z8), none, some (.int x16), none] dM_plan_130 (Nat.le_of_ble_eq_true rfl) (Or.inr (c1n rfl)) rfl ?_
      refine ax_iload (i := 4) dM_plan_132 rfl ?_
      refine ax_iconst (-1 : Int32) dM_plan_134 k32_m1 ?_
      replace hf := ite_c hf
      rcases hf with ⟨hc, hf⟩ | ⟨hc, hf⟩
      · refine ax_icmp_eqT 145 dM_plan_135 (by decide) hc ?_
        refine ax_aload_n (i := 0) (some y0) dM_plan_145 rfl rfl ?_
        refine ax_aload_n (i := 0) (some y0) dM_plan_146 rfl rfl ?_
        replace hf := bd1_s hf
        obtain ⟨r17, e_r17, hf⟩ := hf
        refine ax_getR fl_1066 rfl dM_plan_147 e_r17 ?_
        refine ax_iload (i := 7) dM_plan_150 rfl ?_
        refine ax_iload_n (i := 1) dM_plan_152 rfl rfl ?_
        replace hf := bd2_s hf
        obtain ⟨x18, h19, e_x18, hf⟩ := hf
        obtain ⟨k_e_x18, e_x18⟩ := cv_s e_x18
        refine ax_callV (As := [va_rf r17, .int y7, .int y1]) (rest := []) (c_M_walkRow e_x18) ml_1440 cm_M_walkRow rfl k_e_x18 (Nat.le_trans (Nat.le_of_ble_eq_true rfl) hR1) (Nat.le_trans (Nat.le_of_ble_eq_true rfl) hR2) rfl rfl (Nat.le_of_ble_eq_true rfl) dM_plan_153 ?_
        refine ax_iconst (-1 : Int32) dM_plan_156 k32_m1 ?_
        replace hf := ite_c hf
        rcases hf with ⟨hc, hf⟩ | ⟨hc, hf⟩
        · refine ax_icmp_neF 209 dM_plan_157 (by decide) hc ?_
          refine ax_iload_n (i := 2) dM_plan_160 rfl rfl ?_
          refine ax_aload_n (i := 0) (some y0) dM_plan_161 rfl rfl ?_
          replace hf := bd1_s hf
          obtain ⟨x20, e_x20, hf⟩ := hf
          refine ax_getI fl_1064 rfl dM_plan_162 e_x20 ?_
          refine ax_iconst (-1 : Int32) dM_plan_165 k32_m1 ?_
          refine ax_ixor dM_plan_166 ?_
          refine ax_iand dM_plan_167 ?_
          replace hf := ite_c hf
          rcases hf with ⟨hc, hf⟩ | ⟨hc, hf⟩
          · refine ax_if_neF 209 dM_plan_168 (by decide) hc ?_
            refine ax_iload (i := 10) dM_plan_171 rfl ?_
            refine ax_istore (i := 4) [some (va_rf (some y0)), some (.int y1), some (.int y2), some (.int y3), some (.int x16), some (.int z5), some (.int y6), some (.int y7), some (.int z8), none, some (.int x16), none] dM_plan_173 (Nat.le_of_ble_eq_true rfl) (Or.inr (c1i rfl)) rfl ?_
            refine ax_iload (i := 7) dM_plan_175 rfl ?_
            refine ax_istore (i := 5) [some (va_rf (some y0)), some (.int y1), some (.int y2), some (.int y3), some (.int x16), some (.int y7), some (.int y6), some (.int y7), some (.int z8), none, some (.int x16), none] dM_plan_177 (Nat.le_of_ble_eq_true rfl) (Or.inr (c1i rfl)) rfl ?_
            refine ax_iconst (0 : Int32) dM_plan_179 k32_0 ?_
            refine ax_istore (i := 11) [some (va_rf (some y0)), some (.int y1), some (.int y2), some (.int y3), some (.int x16), some (.int y7), some (.int y6), some (.int y7), some (.int z8), none, some (.int x16), some (.int (0 : Int32))] dM_plan_180 (Nat.le_of_ble_eq_true rfl) (Or.inr (c1i rfl)) rfl ?_
            refine ax_mask [true, true, true, true, true, true, true, true, true, true, false, true] rfl [some (va_rf (some y0)), some (.int y1), some (.int y2), some (.int y3), some (.int x16), some (.int y7), some (.int y6), some (.int y7), some (.int z8), none, none, some (.int (0 : Int32))] rfl ?_
            refine w_M_plan_L182 hR1 hR2 (fun h27 hf => ?_) FU (0 : Int32) h19 hf
            refine ax_iinc (i := 8) (z8 + (1 : Int32)) [some (va_rf (some y0)), some (.int y1), some (.int y2), some (.int y3), some (.int x16), some (.int y7), some (.int y6), some (.int y7), some (.int (z8 + (1 : Int32))), none, none, none] dM_plan_209 rfl (iic k32_1) (Or.inr (c1i rfl)) rfl ?_
            refine ax_goto 69 dM_plan_212 (by decide) ?_
            exact ih x16 y7 (z8 + (1 : Int32)) h27 hf
          · refine ax_if_neT 209 dM_plan_168 (by decide) hc ?_
            refine ax_iinc (i := 8) (z8 + (1 : Int32)) [some (va_rf (some y0)), some (.int y1), some (.int y2), some (.int y3), some (.int z4), some (.int z5), some (.int y6), some (.int y7), some (.int (z8 + (1 : Int32))), none, some (.int x16), none] dM_plan_209 rfl (iic k32_1) (Or.inr (c1i rfl)) rfl ?_
            refine ax_goto 69 dM_plan_212 (by decide) ?_
            refine ax_mask [true, true, true, true, true, true, true, true, true, true, false, true] rfl [some (va_rf (some y0)), some (.int y1), some (.int y2), some (.int y3), some (.int z4), some (.int z5), some (.int y6), some (.int y7), some (.int (z8 + (1 : Int32))), none, none, none] rfl ?_
            exact ih z4 z5 (z8 + (1 : Int32)) h19 hf
        · refine ax_icmp_neT 209 dM_plan_157 (by decide) hc ?_
          refine ax_iinc (i := 8) (z8 + (1 : Int32)) [some (va_rf (some y0)), some (.int y1), some (.int y2), some (.int y3), some (.int z4), some (.int z5), some (.int y6), some (.int y7), some (.int (z8 + (1 : Int32))), none, some (.int x16), none] dM_plan_209 rfl (iic k32_1) (Or.inr (c1i rfl)) rfl ?_
          refine ax_goto 69 dM_plan_212 (by decide) ?_
          refine ax_mask [true, true, true, true, true, true, true, true, true, true, false, true] rfl [some (va_rf (some y0)), some (.int y1), some (.int y2), some (.int y3), some (.int z4), some (.int z5), some (.int y6), some (.int y7), some (.int (z8 + (1 : Int32))), none, none, none] rfl ?_
          exact ih z4 z5 (z8 + (1 : Int32)) h19 hf
      · refine ax_icmp_eqF 145 dM_plan_135 (by decide) hc ?_
        refine ax_iload (i := 10) dM_plan_138 rfl ?_
        refine ax_iload (i := 4) dM_plan_140 rfl ?_
        replace hf := ite_c hf
        rcases hf with ⟨hc, hf⟩ | ⟨hc, hf⟩
        · refine ax_icmp_geF 209 dM_plan_142 (by decide) hc ?_
          refine ax_aload_n (i := 0) (some y0) dM_plan_145 rfl rfl ?_
          refine ax_aload_n (i := 0) (some y0) dM_plan_146 rfl rfl ?_
          replace hf := bd1_s hf
          obtain ⟨r28, e_r28, hf⟩ := hf
          refine ax_getR fl_1066 rfl dM_plan_147 e_r28 ?_
          refine ax_iload (i := 7) dM_plan_150 rfl ?_
          refine ax_iload_n (i := 1) dM_plan_152 rfl rfl ?_
          replace hf := bd2_s hf
          obtain ⟨x29, h30, e_x29, hf⟩ := hf
          obtain ⟨k_e_x29, e_x29⟩ := cv_s e_x29
          refine ax_callV (As := [va_rf r28, .int y7, .int y1]) (rest := []) (c_M_walkRow e_x29) ml_1440 cm_M_walkRow rfl k_e_x29 (Nat.le_trans (Nat.le_of_ble_eq_true rfl) hR1) (Nat.le_trans (Nat.le_of_ble_eq_true rfl) hR2) rfl rfl (Nat.le_of_ble_eq_true rfl) dM_plan_153 ?_
          refine ax_iconst (-1 : Int32) dM_plan_156 k32_m1 ?_
          replace hf := ite_c hf
          rcases hf with ⟨hc, hf⟩ | ⟨hc, hf⟩
          · refine ax_icmp_neF 209 dM_plan_157 (by decide) hc ?_
            refine ax_iload_n (i := 2) dM_plan_160 rfl rfl ?_
            refine ax_aload_n (i := 0) (some y0) dM_plan_161 rfl rfl ?_
            replace hf := bd1_s hf
            obtain ⟨x31, e_x31, hf⟩ := hf
            refine ax_getI fl_1064 rfl dM_plan_162 e_x31 ?_
            refine ax_iconst (-1 : Int32) dM_plan_165 k32_m1 ?_
            refine ax_ixor dM_plan_166 ?_
            refine ax_iand dM_plan_167 ?_
            replace hf := ite_c hf
            rcases hf with ⟨hc, hf⟩ | ⟨hc, hf⟩
            · refine ax_if_neF 209 dM_plan_168 (by decide) hc ?_
              refine ax_iload (i := 10) dM_plan_171 rfl ?_
              refine ax_istore (i := 4) [some (va_rf (some y0)), some (.int y1), some (.int y2), some (.int y3), some (.int x16), some (.int z5), some (.int y6), some (.int y7), some (.int z8), none, some (.int x16), none] dM_plan_173 (Nat.le_of_ble_eq_true rfl) (Or.inr (c1i rfl)) rfl ?_
              refine ax_iload (i := 7) dM_plan_175 rfl ?_
              refine ax_istore (i := 5) [some (va_rf (some y0)), some (.int y1), some (.int y2), some (.int y3), some (.int x16), some (.int y7), some (.int y6), some (.int y7), some (.int z8), none, some (.int x16), none] dM_plan_177 (Nat.le_of_ble_eq_true rfl) (Or.inr (c1i rfl)) rfl ?_
              refine ax_iconst (0 : Int32) dM_plan_179 k32_0 ?_
              refine ax_istore (i := 11) [some (va_rf (some y0)), some (.int y1), some (.int y2), some (.int y3), some (.int x16), some (.int y7), some (.int y6), some (.int y7), some (.int z8), none, some (.int x16), some (.int (0 : Int32))] dM_plan_180 (Nat.le_of_ble_eq_true rfl) (Or.inr (c1i rfl)) rfl ?_
              refine ax_mask [true, true, true, true, true, true, true, true, true, true, false, true] rfl [some (va_rf (some y0)), some (.int y1), some (.int y2), some (.int y3), some (.int x16), some (.int y7), some (.int y6), some (.int y7), some (.int z8), none, none, some (.int (0 : Int32))] rfl ?_
              refine w_M_plan_L182 hR1 hR2 (fun h32 hf => ?_) FU (0 : Int32) h30 hf
              refine ax_iinc (i := 8) (z8 + (1 : Int32)) [some (va_rf (some y0)), some (.int y1), some (.int y2), some (.int y3), some (.int x16), some (.int y7), some (.int y6), some (.int y7), some (.int (z8 + (1 : Int32))), none, none, none] dM_plan_209 rfl (iic k32_1) (Or.inr (c1i rfl)) rfl ?_
              refine ax_goto 69 dM_plan_212 (by decide) ?_
              exact ih x16 y7 (z8 + (1 : Int32)) h32 hf
            · refine ax_if_neT 209 dM_plan_168 (by decide) hc ?_
              refine ax_iinc (i := 8) (z8 + (1 : Int32)) [some (va_rf (some y0)), some (.int y1), some (.int y2), some (.int y3), some (.int z4), some (.int z5), some (.int y6), some (.int y7), some (.int (z8 + (1 : Int32))), none, some (.int x16), none] dM_plan_209 rfl (iic k32_1) (Or.inr (c1i rfl)) rfl ?_
              refine ax_goto 69 dM_plan_212 (by decide) ?_
              refine ax_mask [true, true, true, true, true, true, true, true, true, true, false, true] rfl [some (va_rf (some y0)), some (.int y1), some (.int y2), some (.int y3), some (.int z4), some (.int z5), some (.int y6), some (.int y7), some (.int (z8 + (1 : Int32))), none, none, none] rfl ?_
              exact ih z4 z5 (z8 + (1 : Int32)) h30 hf
          · refine ax_icmp_neT 209 dM_plan_157 (by decide) hc ?_
            refine ax_iinc (i := 8) (z8 + (1 : Int32)) [some (va_rf (some y0)), some (.int y1), some (.int y2), some (.int y3), some (.int z4), some (.int z5), some (.int y6), some (.int y7), some (.int (z8 + (1 : Int32))), none, some (.int x16), none] dM_plan_209 rfl (iic k32_1) (Or.inr (c1i rfl)) rfl ?_
            refine ax_goto 69 dM_plan_212 (by decide) ?_
            refine ax_mask [true, true, true, true, true, true, true, true, true, true, false, true] rfl [some (va_rf (some y0)), some (.int y1), some (.int y2), some (.int y3), some (.int z4), some (.int z5), some (.int y6), some (.int y7), some (.int (z8 + (1 : Int32))), none, none, none] rfl ?_
            exact ih z4 z5 (z8 + (1 : Int32)) h30 hf
        · refine ax_icmp_geT 209 dM_plan_142 (by decide) hc ?_
          refine ax_iinc (i := 8) (z8 + (1 : Int32)) [some (va_rf (some y0)), some (.int y1), some (.int y2), some (.int y3), some (.int z4), some (.int z5), some (.int y6), some (.int y7), some (.int (z8 + (1 : Int32))), none, some (.int x16), none] dM_plan_209 rfl (iic k32_1) (Or.inr (c1i rfl)) rfl ?_
          refine ax_goto 69 dM_plan_212 (by decide) ?_
          refine ax_mask [true, true, true, true, true, true, true, true, true, true, false, true] rfl [some (va_rf (some y0)), some (.int y1), some (.int y2), some (.int y3), some (.int z4), some (.int z5), some (.int y6), some (.int y7), some (.int (z8 + (1 : Int32))), none, none, none] rfl ?_
          exact ih z4 z5 (z8 + (1 : Int32)) h14 hf
    · refine ax_icmp_geT 215 dM_plan_73 (by decide) hc ?_
      refine ax_mask [true, true, true, true, true, true, true, true, false, true, true, true] rfl [some (va_rf (some y0)), some (.int y1), some (.int y2), some (.int y3), some (.int z4), some (.int z5), some (.int y6), some (.int y7), none, none, none, none] rfl ?_
      exact hk z4 z5 h hf
theorem w_M_plan_L60 {l : Launch} {E : EN} {R : Room} {B : (Nat × Nat) × (Nat × Nat)} {Qf : QF} {ρ : Type} {res : ρ} (hR1 : 4 ≤ R.frames) (hR2 : 256 ≤ R.locals) {y0 : Nat} {y1 : Int32} {y2 : Int32} {y3 : Int32} {k : Int32 → Int32 → AH → Option (ρ)} (hk : ∀ (z4 : Int32) (z5 : Int32) (h : AH), k z4 z5 h = some res → AW l E mi_M_plan R B Qf 230 [some (va_rf (some y0)), none, none, none, some (.int z4), some (.int z5), none, none, none, none, none, none] [] h) : ∀ (n : Nat) (z4 : Int32) (z5 : Int32) (z6 : Int32) (z7 : Int32) (h : AH), f_M_plan_L60 y0 y1 y2 y3 k n z4 z5 z6 z7 h = some res → AW l E mi_M_plan R B Qf 60 [some (va_rf (some y0)), some (.int y1), some (.int y2), some (.int y3), some (.int z4), some (.int z5), some (.int z6), some (.int z7), none, none, none, none] [] h := by
  intro n
  induction n with
  | zero => intro z4 z5 z6 z7 h hf; cases hf
  | succ n ih =>
    intro z4 z5 z6 z7 h hf
    rw [f_M_plan_L60] at hf
    refine ax_iload (i := 7) dM_plan_60 rfl ?_
    refine ax_iload_n (i := 3) dM_plan_62 rfl rfl ?_
    replace hf := ite_c hf
    rcases hf with ⟨hc, hf⟩ | ⟨hc, hf⟩
    · refine ax_icmp_gtT 230 dM_plan_63 (by decide) hc ?_
      refine ax_mask [true, false, false, false, true, true, false, false, true, true, true, true] rfl [some (va_rf (some y0)), none, none, none, some (.int z4), some (.int z5), none, none, none, none, none, none] rfl ?_
      exact hk z4 z5 h hf
    · refine ax_icmp_gtF 230 dM_plan_63 (by decide) hc ?_
      refine ax_iconst (0 : Int32) dM_plan_66 k32_0 ?_
      refine ax_istore (i := 8) [some (va_rf (some y0)), some (.int y1), some (.int y2), some (.int y3), some (.int z4), some (.int z5), some (.int z6), some (.int z7), some (.int (0 : Int32)), none, none, none] dM_plan_67 (Nat.le_of_ble_eq_true rfl) (Or.inr (c1i rfl)) rfl ?_
      refine w_M_plan_L69 hR1 hR2 (fun x33 x34 h35 hf => ?_) FU z4 z5 (0 : Int32) h hf
      refine ax_iload (i := 6) dM_plan_215 rfl ?_
      refine ax_aload_n (i := 0) (some y0) dM_plan_217 rfl rfl ?_
      replace hf := bd1_s hf
      obtain ⟨x36, e_x36, hf⟩ := hf
      refine ax_getI fl_1022 rfl dM_plan_218 e_x36 ?_
      refine ax_imul dM_plan_221 ?_
      replace hf := bd1_s hf
      obtain ⟨x37, e_x37, hf⟩ := hf
      refine ax_nmI (Option.some.inj e_x37) ?_
      refine ax_istore (i := 6) [some (va_rf (some y0)), some (.int y1), some (.int y2), some (.int y3), some (.int x33), some (.int x34), some (.int x37), some (.int z7), none, none, none, none] dM_plan_222 (Nat.le_of_ble_eq_true rfl) (Or.inr (c1i rfl)) rfl ?_
      refine ax_iinc (i := 7) (z7 + (1 : Int32)) [some (va_rf (some y0)), some (.int y1), some (.int y2), some (.int y3), some (.int x33), some (.int x34), some (.int x37), some (.int (z7 + (1 : Int32))), none, none, none, none] dM_plan_224 rfl (iic k32_1) (Or.inr (c1i rfl)) rfl ?_
      refine ax_goto 60 dM_plan_227 (by decide) ?_
      exact ih x33 x34 x37 (z7 + (1 : Int32)) h35 hf
theorem w_M_plan_L245 {l : Launch} {E : EN} {R : Room} {B : (Nat × Nat) × (Nat × Nat)} {Qf : QF} {r : Int32} {hF : AH} (hR1 : 4 ≤ R.frames) (hR2 : 256 ≤ R.locals) (Hr : ∀ (pc : Nat) (L : List (Option Value)), decode mi_M_plan.2.1 pc = .ok (.ireturn, 1) → AW l E mi_M_plan R B Qf pc L [.int r] hF) {y0 : Nat} {y4 : Int32} {y5 : Int32} : ∀ (n : Nat) (z7 : Int32) (h : AH), f_M_plan_L245 y0 y4 y5 n z7 h = some (r, hF) → AW l E mi_M_plan R B Qf 245 [some (va_rf (some y0)), none, none, none, some (.int y4), some (.int y5), none, some (.int z7), none, none, none, none] [] h := by
  intro n
  induction n with
  | zero => intro z7 h hf; cases hf
  | succ n ih =>
    intro z7 h hf
    rw [f_M_plan_L245] at hf
    refine ax_iload (i := 7) dM_plan_245 rfl ?_
    refine ax_iload (i := 5) dM_plan_247 rfl ?_
    replace hf := ite_c hf
    rcases hf with ⟨hc, hf⟩ | ⟨hc, hf⟩
    · refine ax_icmp_geF 272 dM_plan_249 (by decide) hc ?_
      refine ax_aload_n (i := 0) (some y0) dM_plan_252 rfl rfl ?_
      replace hf := bd1_s hf
      obtain ⟨r42, e_r42, hf⟩ := hf
      refine ax_getR fl_1029 rfl dM_plan_253 e_r42 ?_
      refine ax_iload (i := 7) dM_plan_256 rfl ?_
      refine ax_aload_n (i := 0) (some y0) dM_plan_258 rfl rfl ?_
      replace hf := bd1_s hf
      obtain ⟨r43, e_r43, hf⟩ := hf
      refine ax_getR fl_1067 rfl dM_plan_259 e_r43 ?_
      refine ax_iload (i := 7) dM_plan_262 rfl ?_
      replace hf := bd1_s hf
      obtain ⟨a44, e_d, hf⟩ := hf
      subst e_d
      replace hf := bd1_s hf
      obtain ⟨x45, e_x45, hf⟩ := hf
      refine ax_iald dM_plan_264 e_x45 ?_
      replace hf := bd1_s hf
      obtain ⟨a46, e_d, hf⟩ := hf
      subst e_d
      replace hf := bd1_s hf
      obtain ⟨h47, e_h47, hf⟩ := hf
      refine ax_iast dM_plan_265 e_h47 ?_
      refine ax_iinc (i := 7) (z7 + (1 : Int32)) [some (va_rf (some y0)), none, none, none, some (.int y4), some (.int y5), none, some (.int (z7 + (1 : Int32))), none, none, none, none] dM_plan_266 rfl (iic k32_1) (Or.inr (c1n rfl)) rfl ?_
      refine ax_goto 245 dM_plan_269 (by decide) ?_
      exact ih (z7 + (1 : Int32)) h47 hf
    · refine ax_icmp_geT 272 dM_plan_249 (by decide) hc ?_
      refine ax_iload (i := 4) dM_plan_272 rfl ?_
      cases hf
      exact Hr _ _ dM_plan_274
theorem v_M_plan {l : Launch} {E : EN} {R : Room} {B : (Nat × Nat) × (Nat × Nat)} {Qf : QF} {h0 : AH} {o : Nat} {p1 : Int32} {p2 : Int32} {p3 : Int32} {r : Int32} {hF : AH} (hR1 : 4 ≤ R.frames) (hR2 : 256 ≤ R.locals) (Hr : ∀ (pc : Nat) (L : List (Option Value)), decode mi_M_plan.2.1 pc = .ok (.ireturn, 1) → AW l E mi_M_plan R B Qf pc L [.int r] hF) (hf : f_M_plan h0 o p1 p2 p3 = some (r, hF)) : AW l E mi_M_plan R B Qf 0 [some (va_rf (some o)), some (.int p1), some (.int p2), some (.int p3), none, none, none, none, none, none, none, none] [] h0 := by
  unfold f_M_plan at hf
  refine ax_iload_n (i := 1) dM_plan_0 rfl rfl ?_
  replace hf := bd1_s hf
  obtain ⟨x1, e_x1, hf⟩ := hf
  refine ax_callS (As := [.int p1]) (rest := []) (c_M_isSet e_x1) ml_1401 cm_M_isSet (Nat.le_trans (Nat.le_of_ble_eq_true rfl) hR1) (Nat.le_trans (Nat.le_of_ble_eq_true rfl) hR2) rfl rfl (Nat.le_of_ble_eq_true rfl) dM_plan_1 ?_
  replace hf := ite_c hf
  rcases hf with ⟨hc, hf⟩ | ⟨hc, hf⟩
  · refine ax_if_eqT 23 dM_plan_4 (by decide) hc ?_
    refine ax_bipush (-102 : Int32) dM_plan_23 k8_m102 ?_
    cases hf
    exact Hr _ _ dM_plan_25
  · refine ax_if_eqF 23 dM_plan_4 (by decide) hc ?_
    refine ax_iload_n (i := 2) dM_plan_7 rfl rfl ?_
    replace hf := bd1_s hf
    obtain ⟨x2, e_x2, hf⟩ := hf
    refine ax_callS (As := [.int p2]) (rest := []) (c_M_isSet e_x2) ml_1401 cm_M_isSet (Nat.le_trans (Nat.le_of_ble_eq_true rfl) hR1) (Nat.le_trans (Nat.le_of_ble_eq_true rfl) hR2) rfl rfl (Nat.le_of_ble_eq_true rfl) dM_plan_8 ?_
    replace hf := ite_c hf
    rcases hf with ⟨hc, hf⟩ | ⟨hc, hf⟩
    · refine ax_if_eqT 23 dM_plan_11 (by decide) hc ?_
      refine ax_bipush (-102 : Int32) dM_plan_23 k8_m102 ?_
      cases hf
      exact Hr _ _ dM_plan_25
    · refine ax_if_eqF 23 dM_plan_11 (by decide) hc ?_
      refine ax_iload_n (i := 3) dM_plan_14 rfl rfl ?_
      refine ax_iconst (0 : Int32) dM_plan_15 k32_0 ?_
      refine ax_iconst (5 : Int32) dM_plan_16 k32_5 ?_
      replace hf := bd1_s hf
      obtain ⟨x3, e_x3, hf⟩ := hf
      refine ax_callS (As := [.int p3, .int (0 : Int32), .int (5 : Int32)]) (rest := []) (c_M_in e_x3) ml_1215 cm_M_in (Nat.le_trans (Nat.le_of_ble_eq_true rfl) hR1) (Nat.le_trans (Nat.le_of_ble_eq_true rfl) hR2) rfl rfl (Nat.le_of_ble_eq_true rfl) dM_plan_17 ?_
      replace hf := ite_c hf
      rcases hf with ⟨hc, hf⟩ | ⟨hc, hf⟩
      · refine ax_if_neF 26 dM_plan_20 (by decide) hc ?_
        refine ax_bipush (-102 : Int32) dM_plan_23 k8_m102 ?_
        cases hf
        exact Hr _ _ dM_plan_25
      · refine ax_if_neT 26 dM_plan_20 (by decide) hc ?_
        refine ax_aload_n (i := 0) (some o) dM_plan_26 rfl rfl ?_
        replace hf := bd1_s hf
        obtain ⟨x4, e_x4, hf⟩ := hf
        refine ax_getI fl_1021 rfl dM_plan_27 e_x4 ?_
        refine ax_bipush (20 : Int32) dM_plan_30 k8_20 ?_
        replace hf := ite_c hf
        rcases hf with ⟨hc, hf⟩ | ⟨hc, hf⟩
        · refine ax_icmp_neF 38 dM_plan_32 (by decide) hc ?_
          refine ax_bipush (-103 : Int32) dM_plan_35 k8_m103 ?_
          cases hf
          exact Hr _ _ dM_plan_37
        · refine ax_icmp_neT 38 dM_plan_32 (by decide) hc ?_
          refine ax_aload_n (i := 0) (some o) dM_plan_38 rfl rfl ?_
          refine ax_dup dM_plan_39 rfl ?_
          replace hf := bd1_s hf
          obtain ⟨x5, e_x5, hf⟩ := hf
          refine ax_getI fl_1021 rfl dM_plan_40 e_x5 ?_
          refine ax_iconst (1 : Int32) dM_plan_43 k32_1 ?_
          refine ax_iadd dM_plan_44 ?_
          replace hf := bd1_s hf
          obtain ⟨h6, e_h6, hf⟩ := hf
          refine ax_putI fw_1021 rfl rfl dM_plan_45 e_h6 ?_
          refine ax_iconst (-1 : Int32) dM_plan_48 k32_m1 ?_
          refine ax_istore (i := 4) [some (va_rf (some o)), some (.int p1), some (.int p2), some (.int p3), some (.int (-1 : Int32)), none, none, none, none, none, none, none] dM_plan_49 (Nat.le_of_ble_eq_true rfl) (Or.inr (c1i rfl)) rfl ?_
          refine ax_iconst (0 : Int32) dM_plan_51 k32_0 ?_
          refine ax_istore (i := 5) [some (va_rf (some o)), some (.int p1), some (.int p2), some (.int p3), some (.int (-1 : Int32)), some (.int (0 : Int32)), none, none, none, none, none, none] dM_plan_52 (Nat.le_of_ble_eq_true rfl) (Or.inr (c1i rfl)) rfl ?_
          refine ax_iconst (1 : Int32) dM_plan_54 k32_1 ?_
          refine ax_istore (i := 6) [some (va_rf (some o)), some (.int p1), some (.int p2), some (.int p3), some (.int (-1 : Int32)), some (.int (0 : Int32)), some (.int (1 : Int32)), none, none, none, none, none] dM_plan_55 (Nat.le_of_ble_eq_true rfl) (Or.inr (c1i rfl)) rfl ?_
          refine ax_iconst (0 : Int32) dM_plan_57 k32_0 ?_
          refine ax_istore (i := 7) [some (va_rf (some o)), some (.int p1), some (.int p2), some (.int p3), some (.int (-1 : Int32)), some (.int (0 : Int32)), some (.int (1 : Int32)), some (.int (0 : Int32)), none, none, none, none] dM_plan_58 (Nat.le_of_ble_eq_true rfl) (Or.inr (c1i rfl)) rfl ?_
          refine w_M_plan_L60 hR1 hR2 (fun x38 x39 h40 hf => ?_) FU (-1 : Int32) (0 : Int32) (1 : Int32) (0 : Int32) h6 hf
          refine ax_iload (i := 4) dM_plan_230 rfl ?_
          refine ax_iconst (-1 : Int32) dM_plan_232 k32_m1 ?_
          replace hf := ite_c hf
          rcases hf with ⟨hc, hf⟩ | ⟨hc, hf⟩
          · refine ax_icmp_eqT 272 dM_plan_233 (by decide) hc ?_
            refine ax_iload (i := 4) dM_plan_272 rfl ?_
            cases hf
            exact Hr _ _ dM_plan_274
          · refine ax_icmp_eqF 272 dM_plan_233 (by decide) hc ?_
            refine ax_aload_n (i := 0) (some o) dM_plan_236 rfl rfl ?_
            refine ax_iload (i := 5) dM_plan_237 rfl ?_
            replace hf := bd1_s hf
            obtain ⟨h41, e_h41, hf⟩ := hf
            refine ax_putI fw_1028 rfl rfl dM_plan_239 e_h41 ?_
            refine ax_iconst (0 : Int32) dM_plan_242 k32_0 ?_
            refine ax_istore (i := 7) [some (va_rf (some o)), none, none, none, some (.int x38), some (.int x39), none, some (.int (0 : Int32)), none, none, none, none] dM_plan_243 (Nat.le_of_ble_eq_true rfl) (Or.inr (c1n rfl)) rfl ?_
            refine w_M_plan_L245 hR1 hR2 Hr FU (0 : Int32) h41 hf
theorem c_M_plan {l : Launch} {E : EN} {h0 : AH} {o : Nat} {p1 : Int32} {p2 : Int32} {p3 : Int32} {r : Int32} {hF : AH} (hf : f_M_plan h0 o p1 p2 p3 = some (r, hF)) : AM l E 4 mi_M_plan [va_rf (some o), .int p1, .int p2, .int p3] h0 (some (.int r)) hF :=
  am_of2 [(va_rf (some o), false), (.int p1, false), (.int p2, false), (.int p3, false)] 8 ⟨cat_rf _, rfl, rfl, rfl, trivial⟩ rfl rfl (v_M_plan (Nat.le_refl _) (Nat.le_refl _) (fun pc L hd => ax_iret rfl hd rfl) hf)
theorem v_M_power {l : Launch} {E : EN} {R : Room} {B : (Nat × Nat) × (Nat × Nat)} {Qf : QF} {h0 : AH} {p1 : Int64} {p2 : Int32} {r : Int64} (hR1 : 1 ≤ R.frames) (hR2 : 64 ≤ R.locals) (Hr : ∀ (pc : Nat) (L : List (Option Value)), decode mi_M_power.2.1 pc = .ok (.lreturn, 1) → AW l E mi_M_power R B Qf pc L [.long r] h0) (hf : f_M_power h0 p1 p2 = some r) : AW l E mi_M_power R B Qf 0 [some (.long p1), none, some (.int p2)] [] h0 := by
  unfold f_M_power at hf
  refine ax_iload_n (i := 2) dM_power_0 rfl rfl ?_
  refine ax_iconst (1 : Int32) dM_power_1 k32_1 ?_
  replace hf := ite_c hf
  rcases hf with ⟨hc, hf⟩ | ⟨hc, hf⟩
  · refine ax_icmp_neF 9 dM_power_2 (by decide) hc ?_
    refine ax_lload_n (i := 0) dM_power_5 rfl rfl ?_
    refine ax_goto 25 dM_power_6 (by decide) ?_
    cases hf
    exact Hr _ _ dM_power_25
  · refine ax_icmp_neT 9 dM_power_2 (by decide) hc ?_
    refine ax_iload_n (i := 2) dM_power_9 rfl rfl ?_
    refine ax_iconst (2 : Int32) dM_power_10 k32_2 ?_
    replace hf := ite_c hf
    rcases hf with ⟨hc, hf⟩ | ⟨hc, hf⟩
    · refine ax_icmp_neF 20 dM_power_11 (by decide) hc ?_
      refine ax_lload_n (i := 0) dM_power_14 rfl rfl ?_
      refine ax_lload_n (i := 0) dM_power_15 rfl rfl ?_
      refine ax_lmul dM_power_16 ?_
      refine ax_goto 25 dM_power_17 (by decide) ?_
      cases hf
      exact Hr _ _ dM_power_25
    · refine ax_icmp_neT 20 dM_power_11 (by decide) hc ?_
      refine ax_lload_n (i := 0) dM_power_20 rfl rfl ?_
      refine ax_lload_n (i := 0) dM_power_21 rfl rfl ?_
      refine ax_lmul dM_power_22 ?_
      refine ax_lload_n (i := 0) dM_power_23 rfl rfl ?_
      refine ax_lmul dM_power_24 ?_
      cases hf
      exact Hr _ _ dM_power_25
theorem c_M_power {l : Launch} {E : EN} {h0 : AH} {p1 : Int64} {p2 : Int32} {r : Int64} (hf : f_M_power h0 p1 p2 = some r) : AM l E 1 mi_M_power [.long p1, .int p2] h0 (some (.long r)) h0 :=
  am_of2 [(.long p1, true), (.int p2, false)] 0 ⟨rfl, rfl, trivial⟩ rfl rfl (v_M_power (Nat.le_refl _) (Nat.le_refl _) (fun pc L hd => ax_lret rfl hd rfl) hf)
theorem w_M_shared_L6 {l : Launch} {E : EN} {R : Room} {B : (Nat × Nat) × (Nat × Nat)} {Qf : QF} {h0 : AH} {r : Int64} (hR1 : 1 ≤ R.frames) (hR2 : 64 ≤ R.locals) (Hr : ∀ (pc : Nat) (L : List (Option Value)), decode mi_M_shared.2.1 pc = .ok (.lreturn, 1) → AW l E mi_M_shared R B Qf pc L [.long r] h0) : ∀ (n : Nat) (z4 : Int64) (z6 : Int64), f_M_shared_L6 h0 n z4 z6 = some r → AW l E mi_M_shared R B Qf 6 [none, none, none, none, some (.long z4), none, some (.long z6), none, none, none] [] h0 := by
  intro n
  induction n with
  | zero => intro z4 z6 hf; cases hf
  | succ n ih =>
    intro z4 z6 hf
    rw [f_M_shared_L6] at hf
    refine ax_lload (i := 6) dM_shared_6 rfl ?_
    refine ax_lconst (0 : Int64) dM_shared_8 kl_0 ?_
    refine ax_lcmp dM_shared_9 ?_
    replace hf := ite_c hf
    rcases hf with ⟨hc, hf⟩ | ⟨hc, hf⟩
    · refine ax_if_eqT 31 dM_shared_10 (by decide) hc ?_
      refine ax_lload (i := 4) dM_shared_31 rfl ?_
      cases hf
      exact Hr _ _ dM_shared_33
    · refine ax_if_eqF 31 dM_shared_10 (by decide) hc ?_
      refine ax_lload (i := 4) dM_shared_13 rfl ?_
      refine ax_lload (i := 6) dM_shared_15 rfl ?_
      replace hf := ite_s hf
      obtain ⟨e_g17, hf⟩ := hf
      refine ax_lrem dM_shared_17 e_g17 ?_
      replace hf := bd1_s hf
      obtain ⟨x1, e_x1, hf⟩ := hf
      refine ax_nmJ (Option.some.inj e_x1) ?_
      refine ax_lstore (i := 8) [none, none, none, none, some (.long z4), none, some (.long z6), none, some (.long x1), none] dM_shared_18 (Nat.le_of_ble_eq_true rfl) (Or.inr (c1n rfl)) rfl ?_
      refine ax_lload (i := 6) dM_shared_20 rfl ?_
      refine ax_lstore (i := 4) [none, none, none, none, some (.long z6), none, some (.long z6), none, some (.long x1), none] dM_shared_22 (Nat.le_of_ble_eq_true rfl) (Or.inr (c1n rfl)) rfl ?_
      refine ax_lload (i := 8) dM_shared_24 rfl ?_
      refine ax_lstore (i := 6) [none, none, none, none, some (.long z6), none, some (.long x1), none, some (.long x1), none] dM_shared_26 (Nat.le_of_ble_eq_true rfl) (Or.inr (c1n rfl)) rfl ?_
      refine ax_goto 6 dM_shared_28 (by decide) ?_
      refine ax_mask [true, true, true, true, true, true, true, true, false, true] rfl [none, none, none, none, some (.long z6), none, some (.long x1), none, none, none] rfl ?_
      exact ih z6 x1 hf
theorem v_M_shared {l : Launch} {E : EN} {R : Room} {B : (Nat × Nat) × (Nat × Nat)} {Qf : QF} {h0 : AH} {p1 : Int64} {p2 : Int64} {r : Int64} (hR1 : 1 ≤ R.frames) (hR2 : 64 ≤ R.locals) (Hr : ∀ (pc : Nat) (L : List (Option Value)), decode mi_M_shared.2.1 pc = .ok (.lreturn, 1) → AW l E mi_M_shared R B Qf pc L [.long r] h0) (hf : f_M_shared h0 p1 p2 = some r) : AW l E mi_M_shared R B Qf 0 [some (.long p1), none, some (.long p2), none, none, none, none, none, none, none] [] h0 := by
  unfold f_M_shared at hf
  refine ax_lload_n (i := 0) dM_shared_0 rfl rfl ?_
  refine ax_lstore (i := 4) [some (.long p1), none, some (.long p2), none, some (.long p1), none, none, none, none, none] dM_shared_1 (Nat.le_of_ble_eq_true rfl) (Or.inr (c1n rfl)) rfl ?_
  refine ax_lload_n (i := 2) dM_shared_3 rfl rfl ?_
  refine ax_lstore (i := 6) [some (.long p1), none, some (.long p2), none, some (.long p1), none, some (.long p2), none, none, none] dM_shared_4 (Nat.le_of_ble_eq_true rfl) (Or.inr (c1n rfl)) rfl ?_
  refine ax_mask [false, true, false, true, true, true, true, true, true, true] rfl [none, none, none, none, some (.long p1), none, some (.long p2), none, none, none] rfl ?_
  refine w_M_shared_L6 hR1 hR2 Hr FU p1 p2 hf
theorem c_M_shared {l : Launch} {E : EN} {h0 : AH} {p1 : Int64} {p2 : Int64} {r : Int64} (hf : f_M_shared h0 p1 p2 = some r) : AM l E 1 mi_M_shared [.long p1, .long p2] h0 (some (.long r)) h0 :=
  am_of2 [(.long p1, true), (.long p2, true)] 6 ⟨rfl, rfl, trivial⟩ rfl rfl (v_M_shared (Nat.le_refl _) (Nat.le_refl _) (fun pc L hd => ax_lret rfl hd rfl) hf)
theorem v_M_lowest {l : Launch} {E : EN} {R : Room} {B : (Nat × Nat) × (Nat × Nat)} {Qf : QF} {h0 : AH} {p1 : Int64} {p2 : Int64} {p3 : Int32} {r : Int64} (hR1 : 2 ≤ R.frames) (hR2 : 128 ≤ R.locals) (Hr : ∀ (pc : Nat) (L : List (Option Value)), decode mi_M_lowest.2.1 pc = .ok (.lreturn, 1) → AW l E mi_M_lowest R B Qf pc L [.long r] h0) (hf : f_M_lowest h0 p1 p2 p3 = some r) : AW l E mi_M_lowest R B Qf 0 [some (.long p1), none, some (.long p2), none, some (.int p3), none, none] [] h0 := by
  unfold f_M_lowest at hf
  refine ax_lload_n (i := 0) dM_lowest_0 rfl rfl ?_
  refine ax_lload_n (i := 2) dM_lowest_1 rfl rfl ?_
  replace hf := bd1_s hf
  obtain ⟨x1, e_x1, hf⟩ := hf
  refine ax_callS (As := [.long p1, .long p2]) (rest := []) (c_M_shared e_x1) ml_1492 cm_M_shared (Nat.le_trans (Nat.le_of_ble_eq_true rfl) hR1) (Nat.le_trans (Nat.le_of_ble_eq_true rfl) hR2) rfl rfl (Nat.le_of_ble_eq_true rfl) dM_lowest_2 ?_
  refine ax_lstore (i := 5) [some (.long p1), none, some (.long p2), none, some (.int p3), some (.long x1), none] dM_lowest_5 (Nat.le_of_ble_eq_true rfl) (Or.inr (c1i rfl)) rfl ?_
  refine ax_iload (i := 4) dM_lowest_7 rfl ?_
  replace hf := ite_c hf
  rcases hf with ⟨hc, hf⟩ | ⟨hc, hf⟩
  · refine ax_if_neF 19 dM_lowest_9 (by decide) hc ?_
    refine ax_lload_n (i := 0) dM_lowest_12 rfl rfl ?_
    refine ax_lload (i := 5) dM_lowest_13 rfl ?_
    replace hf := ite_s hf
    obtain ⟨e_g15, hf⟩ := hf
    refine ax_ldiv dM_lowest_15 e_g15 ?_
    refine ax_goto 23 dM_lowest_16 (by decide) ?_
    cases hf
    exact Hr _ _ dM_lowest_23
  · refine ax_if_neT 19 dM_lowest_9 (by decide) hc ?_
    refine ax_lload_n (i := 2) dM_lowest_19 rfl rfl ?_
    refine ax_lload (i := 5) dM_lowest_20 rfl ?_
    replace hf := ite_s hf
    obtain ⟨e_g22, hf⟩ := hf
    refine ax_ldiv dM_lowest_22 e_g22 ?_
    cases hf
    exact Hr _ _ dM_lowest_23
theorem c_M_lowest {l : Launch} {E : EN} {h0 : AH} {p1 : Int64} {p2 : Int64} {p3 : Int32} {r : Int64} (hf : f_M_lowest h0 p1 p2 p3 = some r) : AM l E 2 mi_M_lowest [.long p1, .long p2, .int p3] h0 (some (.long r)) h0 :=
  am_of2 [(.long p1, true), (.long p2, true), (.int p3, false)] 2 ⟨rfl, rfl, rfl, trivial⟩ rfl rfl (v_M_lowest (Nat.le_refl _) (Nat.le_refl _) (fun pc L hd => ax_lret rfl hd rfl) hf)
theorem w_M_chance_L30 {l : Launch} {E : EN} {R : Room} {B : (Nat × Nat) × (Nat × Nat)} {Qf : QF} {h0 : AH} {ρ : Type} {res : ρ} (hR1 : 3 ≤ R.frames) (hR2 : 192 ≤ R.locals) {y0 : Nat} {y1 : Int32} {y2 : Int32} {k : Int64 → Int64 → Option (ρ)} (hk : ∀ (z3 : Int64) (z5 : Int64), k z3 z5 = some res → AW l E mi_M_chance R B Qf 89 [none, none, some (.int y2), some (.long z3), none, some (.long z5), none, none] [] h0) : ∀ (n : Nat) (z3 : Int64) (z5 : Int64) (z7 : Int32), f_M_chance_L30 h0 y0 y1 y2 k n z3 z5 z7 = some res → AW l E mi_M_chance R B Qf 30 [some (va_rf (some y0)), some (.int y1), some (.int y2), some (.long z3), none, some (.long z5), none, some (.int z7)] [] h0 := by
  intro n
  induction n with
  | zero => intro z3 z5 z7 hf; cases hf
  | succ n ih =>
    intro z3 z5 z7 hf
    rw [f_M_chance_L30] at hf
    refine ax_iload (i := 7) dM_chance_30 rfl ?_
    refine ax_aload_n (i := 0) (some y0) dM_chance_32 rfl rfl ?_
    replace hf := bd1_s hf
    obtain ⟨x3, e_x3, hf⟩ := hf
    refine ax_getI fl_1028 rfl dM_chance_33 e_x3 ?_
    replace hf := ite_c hf
    rcases hf with ⟨hc, hf⟩ | ⟨hc, hf⟩
    · refine ax_icmp_geF 89 dM_chance_36 (by decide) hc ?_
      refine ax_lload_n (i := 3) dM_chance_39 rfl rfl ?_
      refine ax_ldc2 w_1485 dM_chance_40 ?_
      refine ax_iload_n (i := 1) dM_chance_43 rfl rfl ?_
      replace hf := bd1_s hf
      obtain ⟨x4, e_x4, hf⟩ := hf
      refine ax_callS (As := [.long (10 : Int64), .int y1]) (rest := [.long z3]) (c_M_power e_x4) ml_1486 cm_M_power (Nat.le_trans (Nat.le_of_ble_eq_true rfl) hR1) (Nat.le_trans (Nat.le_of_ble_eq_true rfl) hR2) rfl rfl (Nat.le_of_ble_eq_true rfl) dM_chance_44 ?_
      refine ax_aload_n (i := 0) (some y0) dM_chance_47 rfl rfl ?_
      replace hf := bd1_s hf
      obtain ⟨r5, e_r5, hf⟩ := hf
      refine ax_getR fl_1026 rfl dM_chance_48 e_r5 ?_
      refine ax_iconst (5 : Int32) dM_chance_51 k32_5 ?_
      refine ax_aload_n (i := 0) (some y0) dM_chance_52 rfl rfl ?_
      replace hf := bd1_s hf
      obtain ⟨r6, e_r6, hf⟩ := hf
      refine ax_getR fl_1029 rfl dM_chance_53 e_r6 ?_
      refine ax_iload (i := 7) dM_chance_56 rfl ?_
      replace hf := bd1_s hf
      obtain ⟨a7, e_d, hf⟩ := hf
      subst e_d
      replace hf := bd1_s hf
      obtain ⟨x8, e_x8, hf⟩ := hf
      refine ax_iald dM_chance_58 e_x8 ?_
      refine ax_imul dM_chance_59 ?_
      refine ax_iconst (1 : Int32) dM_chance_60 k32_1 ?_
      refine ax_iadd dM_chance_61 ?_
      replace hf := bd1_s hf
      obtain ⟨a9, e_d, hf⟩ := hf
      subst e_d
      replace hf := bd1_s hf
      obtain ⟨x10, e_x10, hf⟩ := hf
      refine ax_iald dM_chance_62 e_x10 ?_
      refine ax_i2l dM_chance_63 ?_
      refine ax_iload_n (i := 1) dM_chance_64 rfl rfl ?_
      replace hf := bd1_s hf
      obtain ⟨x11, e_x11, hf⟩ := hf
      refine ax_callS (As := [.long ((x10).toInt64), .int y1]) (rest := [.long x4, .long z3]) (c_M_power e_x11) ml_1486 cm_M_power (Nat.le_trans (Nat.le_of_ble_eq_true rfl) hR1) (Nat.le_trans (Nat.le_of_ble_eq_true rfl) hR2) rfl rfl (Nat.le_of_ble_eq_true rfl) dM_chance_65 ?_
      refine ax_lsub dM_chance_68 ?_
      refine ax_lmul dM_chance_69 ?_
      replace hf := bd1_s hf
      obtain ⟨x12, e_x12, hf⟩ := hf
      refine ax_nmJ (Option.some.inj e_x12) ?_
      refine ax_lstore_n (i := 3) [some (va_rf (some y0)), some (.int y1), some (.int y2), some (.long x12), none, some (.long z5), none, some (.int z7)] dM_chance_70 rfl (Nat.le_of_ble_eq_true rfl) (Or.inr (c1i rfl)) rfl ?_
      refine ax_lload (i := 5) dM_chance_71 rfl ?_
      refine ax_ldc2 w_1485 dM_chance_73 ?_
      refine ax_iload_n (i := 1) dM_chance_76 rfl rfl ?_
      replace hf := bd1_s hf
      obtain ⟨x13, e_x13, hf⟩ := hf
      refine ax_callS (As := [.long (10 : Int64), .int y1]) (rest := [.long z5]) (c_M_power e_x13) ml_1486 cm_M_power (Nat.le_trans (Nat.le_of_ble_eq_true rfl) hR1) (Nat.le_trans (Nat.le_of_ble_eq_true rfl) hR2) rfl rfl (Nat.le_of_ble_eq_true rfl) dM_chance_77 ?_
      refine ax_lmul dM_chance_80 ?_
      replace hf := bd1_s hf
      obtain ⟨x14, e_x14, hf⟩ := hf
      refine ax_nmJ (Option.some.inj e_x14) ?_
      refine ax_lstore (i := 5) [some (va_rf (some y0)), some (.int y1), some (.int y2), some (.long x12), none, some (.long x14), none, some (.int z7)] dM_chance_81 (Nat.le_of_ble_eq_true rfl) (Or.inr (c1n rfl)) rfl ?_
      refine ax_iinc (i := 7) (z7 + (1 : Int32)) [some (va_rf (some y0)), some (.int y1), some (.int y2), some (.long x12), none, some (.long x14), none, some (.int (z7 + (1 : Int32)))] dM_chance_83 rfl (iic k32_1) (Or.inr (c1n rfl)) rfl ?_
      refine ax_goto 30 dM_chance_86 (by decide) ?_
      exact ih x12 x14 (z7 + (1 : Int32)) hf
    · refine ax_icmp_geT 89 dM_chance_36 (by decide) hc ?_
      refine ax_mask [false, false, true, true, true, true, true, false] rfl [none, none, some (.int y2), some (.long z3), none, some (.long z5), none, none] rfl ?_
      exact hk z3 z5 hf
theorem v_M_chance {l : Launch} {E : EN} {R : Room} {B : (Nat × Nat) × (Nat × Nat)} {Qf : QF} {h0 : AH} {o : Nat} {p1 : Int32} {p2 : Int32} {r : Int64} (hR1 : 3 ≤ R.frames) (hR2 : 192 ≤ R.locals) (Hr : ∀ (pc : Nat) (L : List (Option Value)), decode mi_M_chance.2.1 pc = .ok (.lreturn, 1) → AW l E mi_M_chance R B Qf pc L [.long r] h0) (hf : f_M_chance h0 o p1 p2 = some r) : AW l E mi_M_chance R B Qf 0 [some (va_rf (some o)), some (.int p1), some (.int p2), none, none, none, none, none] [] h0 := by
  unfold f_M_chance at hf
  refine ax_iload_n (i := 1) dM_chance_0 rfl rfl ?_
  refine ax_iconst (1 : Int32) dM_chance_1 k32_1 ?_
  refine ax_iconst (3 : Int32) dM_chance_2 k32_3 ?_
  replace hf := bd1_s hf
  obtain ⟨x1, e_x1, hf⟩ := hf
  refine ax_callS (As := [.int p1, .int (1 : Int32), .int (3 : Int32)]) (rest := []) (c_M_in e_x1) ml_1215 cm_M_in (Nat.le_trans (Nat.le_of_ble_eq_true rfl) hR1) (Nat.le_trans (Nat.le_of_ble_eq_true rfl) hR2) rfl rfl (Nat.le_of_ble_eq_true rfl) dM_chance_3 ?_
  replace hf := ite_c hf
  rcases hf with ⟨hc, hf⟩ | ⟨hc, hf⟩
  · refine ax_if_eqT 18 dM_chance_6 (by decide) hc ?_
    refine ax_ldc2 w_1484 dM_chance_18 ?_
    cases hf
    exact Hr _ _ dM_chance_21
  · refine ax_if_eqF 18 dM_chance_6 (by decide) hc ?_
    refine ax_iload_n (i := 2) dM_chance_9 rfl rfl ?_
    refine ax_iconst (0 : Int32) dM_chance_10 k32_0 ?_
    refine ax_iconst (1 : Int32) dM_chance_11 k32_1 ?_
    replace hf := bd1_s hf
    obtain ⟨x2, e_x2, hf⟩ := hf
    refine ax_callS (As := [.int p2, .int (0 : Int32), .int (1 : Int32)]) (rest := []) (c_M_in e_x2) ml_1215 cm_M_in (Nat.le_trans (Nat.le_of_ble_eq_true rfl) hR1) (Nat.le_trans (Nat.le_of_ble_eq_true rfl) hR2) rfl rfl (Nat.le_of_ble_eq_true rfl) dM_chance_12 ?_
    replace hf := ite_c hf
    rcases hf with ⟨hc, hf⟩ | ⟨hc, hf⟩
    · refine ax_if_neF 22 dM_chance_15 (by decide) hc ?_
      refine ax_ldc2 w_1484 dM_chance_18 ?_
      cases hf
      exact Hr _ _ dM_chance_21
    · refine ax_if_neT 22 dM_chance_15 (by decide) hc ?_
      refine ax_lconst (1 : Int64) dM_chance_22 kl_1 ?_
      refine ax_lstore_n (i := 3) [some (va_rf (some o)), some (.int p1), some (.int p2), some (.long (1 : Int64)), none, none, none, none] dM_chance_23 rfl (Nat.le_of_ble_eq_true rfl) (Or.inr (c1i rfl)) rfl ?_
      refine ax_lconst (1 : Int64) dM_chance_24 kl_1 ?_
      refine ax_lstore (i := 5) [some (va_rf (some o)), some (.int p1), some (.int p2), some (.long (1 : Int64)), none, some (.long (1 : Int64)), none, none] dM_chance_25 (Nat.le_of_ble_eq_true rfl) (Or.inr (c1n rfl)) rfl ?_
      refine ax_iconst (0 : Int32) dM_chance_27 k32_0 ?_
      refine ax_istore (i := 7) [some (va_rf (some o)), some (.int p1), some (.int p2), some (.long (1 : Int64)), none, some (.long (1 : Int64)), none, some (.int (0 : Int32))] dM_chance_28 (Nat.le_of_ble_eq_true rfl) (Or.inr (c1n rfl)) rfl ?_
      refine w_M_chance_L30 hR1 hR2 (fun x15 x16 hf => ?_) FU (1 : Int64) (1 : Int64) (0 : Int32) hf
      refine ax_lload_n (i := 3) dM_chance_89 rfl rfl ?_
      refine ax_lload (i := 5) dM_chance_90 rfl ?_
      refine ax_iload_n (i := 2) dM_chance_92 rfl rfl ?_
      replace hf := bd1_s hf
      obtain ⟨x17, e_x17, hf⟩ := hf
      refine ax_callS (As := [.long x15, .long x16, .int p2]) (rest := []) (c_M_lowest e_x17) ml_1489 cm_M_lowest (Nat.le_trans (Nat.le_of_ble_eq_true rfl) hR1) (Nat.le_trans (Nat.le_of_ble_eq_true rfl) hR2) rfl rfl (Nat.le_of_ble_eq_true rfl) dM_chance_93 ?_
      cases hf
      exact Hr _ _ dM_chance_96
theorem c_M_chance {l : Launch} {E : EN} {h0 : AH} {o : Nat} {p1 : Int32} {p2 : Int32} {r : Int64} (hf : f_M_chance h0 o p1 p2 = some r) : AM l E 3 mi_M_chance [va_rf (some o), .int p1, .int p2] h0 (some (.long r)) h0 :=
  am_of2 [(va_rf (some o), false), (.int p1, false), (.int p2, false)] 5 ⟨cat_rf _, rfl, rfl, trivial⟩ rfl rfl (v_M_chance (Nat.le_refl _) (Nat.le_refl _) (fun pc L hd => ax_lret rfl hd rfl) hf)
theorem w_M_mean_L33 {l : Launch} {E : EN} {R : Room} {B : (Nat × Nat) × (Nat × Nat)} {Qf : QF} {h0 : AH} {ρ : Type} {res : ρ} (hR1 : 3 ≤ R.frames) (hR2 : 192 ≤ R.locals) {y0 : Nat} {y1 : Int32} {y2 : Int32} {k : Int64 → Int64 → Option (ρ)} (hk : ∀ (z3 : Int64) (z7 : Int64), k z3 z7 = some res → AW l E mi_M_mean R B Qf 181 [none, none, some (.int y2), some (.long z3), none, none, none, some (.long z7), none, none, none, none, none, none] [] h0) : ∀ (n : Nat) (z3 : Int64) (z5 : Int64) (z7 : Int64) (z9 : Int32), f_M_mean_L33 h0 y0 y1 y2 k n z3 z5 z7 z9 = some res → AW l E mi_M_mean R B Qf 33 [some (va_rf (some y0)), some (.int y1), some (.int y2), some (.long z3), none, some (.long z5), none, some (.long z7), none, some (.int z9), none, none, none, none] [] h0 := by
  intro n
  induction n with
  | zero => intro z3 z5 z7 z9 hf; cases hf
  | succ n ih =>
    intro z3 z5 z7 z9 hf
    rw [f_M_mean_L33] at hf
    refine ax_iload (i := 9) dM_mean_33 rfl ?_
    refine ax_aload_n (i := 0) (some y0) dM_mean_35 rfl rfl ?_
    replace hf := bd1_s hf
    obtain ⟨x3, e_x3, hf⟩ := hf
    refine ax_getI fl_1028 rfl dM_mean_36 e_x3 ?_
    replace hf := ite_c hf
    rcases hf with ⟨hc, hf⟩ | ⟨hc, hf⟩
    · refine ax_icmp_geF 181 dM_mean_39 (by decide) hc ?_
      refine ax_aload_n (i := 0) (some y0) dM_mean_42 rfl rfl ?_
      replace hf := bd1_s hf
      obtain ⟨r4, e_r4, hf⟩ := hf
      refine ax_getR fl_1026 rfl dM_mean_43 e_r4 ?_
      refine ax_iconst (5 : Int32) dM_mean_46 k32_5 ?_
      refine ax_aload_n (i := 0) (some y0) dM_mean_47 rfl rfl ?_
      replace hf := bd1_s hf
      obtain ⟨r5, e_r5, hf⟩ := hf
      refine ax_getR fl_1029 rfl dM_mean_48 e_r5 ?_
      refine ax_iload (i := 9) dM_mean_51 rfl ?_
      replace hf := bd1_s hf
      obtain ⟨a6, e_d, hf⟩ := hf
      subst e_d
      replace hf := bd1_s hf
      obtain ⟨x7, e_x7, hf⟩ := hf
      refine ax_iald dM_mean_53 e_x7 ?_
      refine ax_imul dM_mean_54 ?_
      refine ax_iconst (1 : Int32) dM_mean_55 k32_1 ?_
      refine ax_iadd dM_mean_56 ?_
      replace hf := bd1_s hf
      obtain ⟨a8, e_d, hf⟩ := hf
      subst e_d
      replace hf := bd1_s hf
      obtain ⟨x9, e_x9, hf⟩ := hf
      refine ax_iald dM_mean_57 e_x9 ?_
      refine ax_i2l dM_mean_58 ?_
      replace hf := bd1_s hf
      obtain ⟨x10, e_x10, hf⟩ := hf
      refine ax_nmJ (Option.some.inj e_x10) ?_
      refine ax_lstore (i := 10) [some (va_rf (some y0)), some (.int y1), some (.int y2), some (.long z3), none, some (.long z5), none, some (.long z7), none, some (.int z9), some (.long x10), none, none, none] dM_mean_59 (Nat.le_of_ble_eq_true rfl) (Or.inr (c1i rfl)) rfl ?_
      refine ax_iload_n (i := 1) dM_mean_61 rfl rfl ?_
      refine ax_iconst (1 : Int32) dM_mean_62 k32_1 ?_
      replace hf := bd1_s hf
      obtain ⟨x11, hT, hf⟩ := hf
      have K : AW l E mi_M_mean R B Qf 110 [some (va_rf (some y0)), some (.int y1), some (.int y2), some (.long z3), none, some (.long z5), none, some (.long z7), none, some (.int z9), some (.long x10), none, none, none] [.long x11] h0 := by
        clear hT
        refine ax_lstore (i := 12) [some (va_rf (some y0)), some (.int y1), some (.int y2), some (.long z3), none, some (.long z5), none, some (.long z7), none, some (.int z9), some (.long x10), none, some (.long x11), none] dM_mean_110 (Nat.le_of_ble_eq_true rfl) (Or.inr (c1n rfl)) rfl ?_
        refine ax_lload_n (i := 3) dM_mean_112 rfl rfl ?_
        refine ax_ldc2 w_1485 dM_mean_113 ?_
        refine ax_iload_n (i := 1) dM_mean_116 rfl rfl ?_
        replace hf := bd1_s hf
        obtain ⟨x12, e_x12, hf⟩ := hf
        refine ax_callS (As := [.long (10 : Int64), .int y1]) (rest := [.long z3]) (c_M_power e_x12) ml_1486 cm_M_power (Nat.le_trans (Nat.le_of_ble_eq_true rfl) hR1) (Nat.le_trans (Nat.le_of_ble_eq_true rfl) hR2) rfl rfl (Nat.le_of_ble_eq_true rfl) dM_mean_117 ?_
        refine ax_lmul dM_mean_120 ?_
        refine ax_lload (i := 5) dM_mean_121 rfl ?_
        refine ax_aload_n (i := 0) (some y0) dM_mean_123 rfl rfl ?_
        replace hf := bd1_s hf
        obtain ⟨r13, e_r13, hf⟩ := hf
        refine ax_getR fl_1026 rfl dM_mean_124 e_r13 ?_
        refine ax_iconst (5 : Int32) dM_mean_127 k32_5 ?_
        refine ax_aload_n (i := 0) (some y0) dM_mean_128 rfl rfl ?_
        replace hf := bd1_s hf
        obtain ⟨r14, e_r14, hf⟩ := hf
        refine ax_getR fl_1029 rfl dM_mean_129 e_r14 ?_
        refine ax_iload (i := 9) dM_mean_132 rfl ?_
        replace hf := bd1_s hf
        obtain ⟨a15, e_d, hf⟩ := hf
        subst e_d
        replace hf := bd1_s hf
        obtain ⟨x16, e_x16, hf⟩ := hf
        refine ax_iald dM_mean_134 e_x16 ?_
        refine ax_imul dM_mean_135 ?_
        replace hf := bd1_s hf
        obtain ⟨a17, e_d, hf⟩ := hf
        subst e_d
        replace hf := bd1_s hf
        obtain ⟨x18, e_x18, hf⟩ := hf
        refine ax_iald dM_mean_136 e_x18 ?_
        refine ax_i2l dM_mean_137 ?_
        refine ax_lmul dM_mean_138 ?_
        refine ax_lload (i := 12) dM_mean_139 rfl ?_
        refine ax_lmul dM_mean_141 ?_
        refine ax_ladd dM_mean_142 ?_
        replace hf := bd1_s hf
        obtain ⟨x19, e_x19, hf⟩ := hf
        refine ax_nmJ (Option.some.inj e_x19) ?_
        refine ax_lstore_n (i := 3) [some (va_rf (some y0)), some (.int y1), some (.int y2), some (.long x19), none, some (.long z5), none, some (.long z7), none, some (.int z9), some (.long x10), none, some (.long x11), none] dM_mean_143 rfl (Nat.le_of_ble_eq_true rfl) (Or.inr (c1i rfl)) rfl ?_
        refine ax_lload (i := 5) dM_mean_144 rfl ?_
        refine ax_ldc2 w_1485 dM_mean_146 ?_
        refine ax_iload_n (i := 1) dM_mean_149 rfl rfl ?_
        replace hf := bd1_s hf
        obtain ⟨x20, e_x20, hf⟩ := hf
        refine ax_callS (As := [.long (10 : Int64), .int y1]) (rest := [.long z5]) (c_M_power e_x20) ml_1486 cm_M_power (Nat.le_trans (Nat.le_of_ble_eq_true rfl) hR1) (Nat.le_trans (Nat.le_of_ble_eq_true rfl) hR2) rfl rfl (Nat.le_of_ble_eq_true rfl) dM_mean_150 ?_
        refine ax_lload (i := 10) dM_mean_153 rfl ?_
        refine ax_iload_n (i := 1) dM_mean_155 rfl rfl ?_
        replace hf := bd1_s hf
        obtain ⟨x21, e_x21, hf⟩ := hf
        refine ax_callS (As := [.long x10, .int y1]) (rest := [.long x20, .long z5]) (c_M_power e_x21) ml_1486 cm_M_power (Nat.le_trans (Nat.le_of_ble_eq_true rfl) hR1) (Nat.le_trans (Nat.le_of_ble_eq_true rfl) hR2) rfl rfl (Nat.le_of_ble_eq_true rfl) dM_mean_156 ?_
        refine ax_lsub dM_mean_159 ?_
        refine ax_lmul dM_mean_160 ?_
        replace hf := bd1_s hf
        obtain ⟨x22, e_x22, hf⟩ := hf
        refine ax_nmJ (Option.some.inj e_x22) ?_
        refine ax_lstore (i := 5) [some (va_rf (some y0)), some (.int y1), some (.int y2), some (.long x19), none, some (.long x22), none, some (.long z7), none, some (.int z9), some (.long x10), none, some (.long x11), none] dM_mean_161 (Nat.le_of_ble_eq_true rfl) (Or.inr (c1n rfl)) rfl ?_
        refine ax_lload (i := 7) dM_mean_163 rfl ?_
        refine ax_ldc2 w_1485 dM_mean_165 ?_
        refine ax_iload_n (i := 1) dM_mean_168 rfl rfl ?_
        replace hf := bd1_s hf
        obtain ⟨x23, e_x23, hf⟩ := hf
        refine ax_callS (As := [.long (10 : Int64), .int y1]) (rest := [.long z7]) (c_M_power e_x23) ml_1486 cm_M_power (Nat.le_trans (Nat.le_of_ble_eq_true rfl) hR1) (Nat.le_trans (Nat.le_of_ble_eq_true rfl) hR2) rfl rfl (Nat.le_of_ble_eq_true rfl) dM_mean_169 ?_
        refine ax_lmul dM_mean_172 ?_
        replace hf := bd1_s hf
        obtain ⟨x24, e_x24, hf⟩ := hf
        refine ax_nmJ (Option.some.inj e_x24) ?_
        refine ax_lstore (i := 7) [some (va_rf (some y0)), some (.int y1), some (.int y2), some (.long x19), none, some (.long x22), none, some (.long x24), none, some (.int z9), some (.long x10), none, some (.long x11), none] dM_mean_173 (Nat.le_of_ble_eq_true rfl) (Or.inr (c1n rfl)) rfl ?_
        refine ax_iinc (i := 9) (z9 + (1 : Int32)) [some (va_rf (some y0)), some (.int y1), some (.int y2), some (.long x19), none, some (.long x22), none, some (.long x24), none, some (.int (z9 + (1 : Int32))), some (.long x10), none, some (.long x11), none] dM_mean_175 rfl (iic k32_1) (Or.inr (c1n rfl)) rfl ?_
        refine ax_goto 33 dM_mean_178 (by decide) ?_
        refine ax_mask [true, true, true, true, true, true, true, true, true, true, false, true, false, true] rfl [some (va_rf (some y0)), some (.int y1), some (.int y2), some (.long x19), none, some (.long x22), none, some (.long x24), none, some (.int (z9 + (1 : Int32))), none, none, none, none] rfl ?_
        exact ih x19 x22 x24 (z9 + (1 : Int32)) hf
      replace hf := hT
      clear hT
      replace hf := ite_c hf
      rcases hf with ⟨hc, hf⟩ | ⟨hc, hf⟩
      · refine ax_icmp_neF 72 dM_mean_63 (by decide) hc ?_
        refine ax_ldc2 w_1485 dM_mean_66 ?_
        refine ax_goto 110 dM_mean_69 (by decide) ?_
        cases hf
        exact K
      · refine ax_icmp_neT 72 dM_mean_63 (by decide) hc ?_
        refine ax_iload_n (i := 1) dM_mean_72 rfl rfl ?_
        refine ax_iconst (2 : Int32) dM_mean_73 k32_2 ?_
        replace hf := ite_c hf
        rcases hf with ⟨hc, hf⟩ | ⟨hc, hf⟩
        · refine ax_icmp_neF 90 dM_mean_74 (by decide) hc ?_
          refine ax_ldc2 w_1499 dM_mean_77 ?_
          refine ax_ldc2 w_1485 dM_mean_80 ?_
          refine ax_lload (i := 10) dM_mean_83 rfl ?_
          refine ax_lmul dM_mean_85 ?_
          refine ax_ladd dM_mean_86 ?_
          refine ax_goto 110 dM_mean_87 (by decide) ?_
          cases hf
          exact K
        · refine ax_icmp_neT 90 dM_mean_74 (by decide) hc ?_
          refine ax_ldc2 w_1500 dM_mean_90 ?_
          refine ax_ldc2 w_1499 dM_mean_93 ?_
          refine ax_lload (i := 10) dM_mean_96 rfl ?_
          refine ax_lmul dM_mean_98 ?_
          refine ax_ladd dM_mean_99 ?_
          refine ax_ldc2 w_1485 dM_mean_100 ?_
          refine ax_lload (i := 10) dM_mean_103 rfl ?_
          refine ax_lmul dM_mean_105 ?_
          refine ax_lload (i := 10) dM_mean_106 rfl ?_
          refine ax_lmul dM_mean_108 ?_
          refine ax_ladd dM_mean_109 ?_
          cases hf
          exact K
    · refine ax_icmp_geT 181 dM_mean_39 (by decide) hc ?_
      refine ax_mask [false, false, true, true, true, false, true, true, true, false, true, true, true, true] rfl [none, none, some (.int y2), some (.long z3), none, none, none, some (.long z7), none, none, none, none, none, none] rfl ?_
      exact hk z3 z7 hf
theorem v_M_mean {l : Launch} {E : EN} {R : Room} {B : (Nat × Nat) × (Nat × Nat)} {Qf : QF} {h0 : AH} {o : Nat} {p1 : Int32} {p2 : Int32} {r : Int64} (hR1 : 3 ≤ R.frames) (hR2 : 192 ≤ R.locals) (Hr : ∀ (pc : Nat) (L : List (Option Value)), decode mi_M_mean.2.1 pc = .ok (.lreturn, 1) → AW l E mi_M_mean R B Qf pc L [.long r] h0) (hf : f_M_mean h0 o p1 p2 = some r) : AW l E mi_M_mean R B Qf 0 [some (va_rf (some o)), some (.int p1), some (.int p2), none, none, none, none, none, none, none, none, none, none, none] [] h0 := by
  unfold f_M_mean at hf
  refine ax_iload_n (i := 1) dM_mean_0 rfl rfl ?_
  refine ax_iconst (1 : Int32) dM_mean_1 k32_1 ?_
  refine ax_iconst (3 : Int32) dM_mean_2 k32_3 ?_
  replace hf := bd1_s hf
  obtain ⟨x1, e_x1, hf⟩ := hf
  refine ax_callS (As := [.int p1, .int (1 : Int32), .int (3 : Int32)]) (rest := []) (c_M_in e_x1) ml_1215 cm_M_in (Nat.le_trans (Nat.le_of_ble_eq_true rfl) hR1) (Nat.le_trans (Nat.le_of_ble_eq_true rfl) hR2) rfl rfl (Nat.le_of_ble_eq_true rfl) dM_mean_3 ?_
  replace hf := ite_c hf
  rcases hf with ⟨hc, hf⟩ | ⟨hc, hf⟩
  · refine ax_if_eqT 18 dM_mean_6 (by decide) hc ?_
    refine ax_ldc2 w_1484 dM_mean_18 ?_
    cases hf
    exact Hr _ _ dM_mean_21
  · refine ax_if_eqF 18 dM_mean_6 (by decide) hc ?_
    refine ax_iload_n (i := 2) dM_mean_9 rfl rfl ?_
    refine ax_iconst (0 : Int32) dM_mean_10 k32_0 ?_
    refine ax_iconst (1 : Int32) dM_mean_11 k32_1 ?_
    replace hf := bd1_s hf
    obtain ⟨x2, e_x2, hf⟩ := hf
    refine ax_callS (As := [.int p2, .int (0 : Int32), .int (1 : Int32)]) (rest := []) (c_M_in e_x2) ml_1215 cm_M_in (Nat.le_trans (Nat.le_of_ble_eq_true rfl) hR1) (Nat.le_trans (Nat.le_of_ble_eq_true rfl) hR2) rfl rfl (Nat.le_of_ble_eq_true rfl) dM_mean_12 ?_
    replace hf := ite_c hf
    rcases hf with ⟨hc, hf⟩ | ⟨hc, hf⟩
    · refine ax_if_neF 22 dM_mean_15 (by decide) hc ?_
      refine ax_ldc2 w_1484 dM_mean_18 ?_
      cases hf
      exact Hr _ _ dM_mean_21
    · refine ax_if_neT 22 dM_mean_15 (by decide) hc ?_
      refine ax_lconst (0 : Int64) dM_mean_22 kl_0 ?_
      refine ax_lstore_n (i := 3) [some (va_rf (some o)), some (.int p1), some (.int p2), some (.long (0 : Int64)), none, none, none, none, none, none, none, none, none, none] dM_mean_23 rfl (Nat.le_of_ble_eq_true rfl) (Or.inr (c1i rfl)) rfl ?_
      refine ax_lconst (1 : Int64) dM_mean_24 kl_1 ?_
      refine ax_lstore (i := 5) [some (va_rf (some o)), some (.int p1), some (.int p2), some (.long (0 : Int64)), none, some (.long (1 : Int64)), none, none, none, none, none, none, none, none] dM_mean_25 (Nat.le_of_ble_eq_true rfl) (Or.inr (c1n rfl)) rfl ?_
      refine ax_lconst (1 : Int64) dM_mean_27 kl_1 ?_
      refine ax_lstore (i := 7) [some (va_rf (some o)), some (.int p1), some (.int p2), some (.long (0 : Int64)), none, some (.long (1 : Int64)), none, some (.long (1 : Int64)), none, none, none, none, none, none] dM_mean_28 (Nat.le_of_ble_eq_true rfl) (Or.inr (c1n rfl)) rfl ?_
      refine ax_iconst (0 : Int32) dM_mean_30 k32_0 ?_
      refine ax_istore (i := 9) [some (va_rf (some o)), some (.int p1), some (.int p2), some (.long (0 : Int64)), none, some (.long (1 : Int64)), none, some (.long (1 : Int64)), none, some (.int (0 : Int32)), none, none, none, none] dM_mean_31 (Nat.le_of_ble_eq_true rfl) (Or.inr (c1n rfl)) rfl ?_
      refine w_M_mean_L33 hR1 hR2 (fun x25 x26 hf => ?_) FU (0 : Int64) (1 : Int64) (1 : Int64) (0 : Int32) hf
      refine ax_lload_n (i := 3) dM_mean_181 rfl rfl ?_
      refine ax_lload (i := 7) dM_mean_182 rfl ?_
      refine ax_iload_n (i := 2) dM_mean_184 rfl rfl ?_
      replace hf := bd1_s hf
      obtain ⟨x27, e_x27, hf⟩ := hf
      refine ax_callS (As := [.long x25, .long x26, .int p2]) (rest := []) (c_M_lowest e_x27) ml_1489 cm_M_lowest (Nat.le_trans (Nat.le_of_ble_eq_true rfl) hR1) (Nat.le_trans (Nat.le_of_ble_eq_true rfl) hR2) rfl rfl (Nat.le_of_ble_eq_true rfl) dM_mean_185 ?_
      cases hf
      exact Hr _ _ dM_mean_188
theorem c_M_mean {l : Launch} {E : EN} {h0 : AH} {o : Nat} {p1 : Int32} {p2 : Int32} {r : Int64} (hf : f_M_mean h0 o p1 p2 = some r) : AM l E 3 mi_M_mean [va_rf (some o), .int p1, .int p2] h0 (some (.long r)) h0 :=
  am_of2 [(va_rf (some o), false), (.int p1, false), (.int p2, false)] 11 ⟨cat_rf _, rfl, rfl, trivial⟩ rfl rfl (v_M_mean (Nat.le_refl _) (Nat.le_refl _) (fun pc L hd => ax_lret rfl hd rfl) hf)
theorem w_M_holdsBack_L7 {l : Launch} {E : EN} {R : Room} {B : (Nat × Nat) × (Nat × Nat)} {Qf : QF} {ρ : Type} {res : ρ} (hR1 : 3 ≤ R.frames) (hR2 : 192 ≤ R.locals) {y0 : Nat} {y1 : Int32} {y2 : Int32} {k : AH → Option (ρ)} (hk : ∀ (h : AH), k h = some res → AW l E mi_M_holdsBack R B Qf 28 [some (va_rf (some y0)), some (.int y1), some (.int y2), none, none] [] h) : ∀ (n : Nat) (z3 : Int32) (h : AH), f_M_holdsBack_L7 y0 y1 y2 k n z3 h = some res → AW l E mi_M_holdsBack R B Qf 7 [some (va_rf (some y0)), some (.int y1), some (.int y2), some (.int z3), none] [] h := by
  intro n
  induction n with
  | zero => intro z3 h hf; cases hf
  | succ n ih =>
    intro z3 h hf
    rw [f_M_holdsBack_L7] at hf
    refine ax_iload_n (i := 3) dM_holdsBack_7 rfl rfl ?_
    refine ax_iload_n (i := 2) dM_holdsBack_8 rfl rfl ?_
    replace hf := ite_c hf
    rcases hf with ⟨hc, hf⟩ | ⟨hc, hf⟩
    · refine ax_icmp_geF 28 dM_holdsBack_9 (by decide) hc ?_
      refine ax_aload_n (i := 0) (some y0) dM_holdsBack_12 rfl rfl ?_
      refine ax_aload_n (i := 0) (some y0) dM_holdsBack_13 rfl rfl ?_
      replace hf := bd1_s hf
      obtain ⟨r2, e_r2, hf⟩ := hf
      refine ax_getR fl_1029 rfl dM_holdsBack_14 e_r2 ?_
      refine ax_iload_n (i := 3) dM_holdsBack_17 rfl rfl ?_
      replace hf := bd1_s hf
      obtain ⟨a3, e_d, hf⟩ := hf
      subst e_d
      replace hf := bd1_s hf
      obtain ⟨x4, e_x4, hf⟩ := hf
      refine ax_iald dM_holdsBack_18 e_x4 ?_
      replace hf := bd1_s hf
      obtain ⟨h5, e_h5, hf⟩ := hf
      obtain ⟨k_e_h5, e_h5⟩ := cv_s e_h5
      refine ax_callV (As := [.int x4]) (rest := []) (c_M_goOne e_h5) ml_1456 cm_M_goOne rfl k_e_h5 (Nat.le_trans (Nat.le_of_ble_eq_true rfl) hR1) (Nat.le_trans (Nat.le_of_ble_eq_true rfl) hR2) rfl rfl (Nat.le_of_ble_eq_true rfl) dM_holdsBack_19 ?_
      refine ax_iinc (i := 3) (z3 + (1 : Int32)) [some (va_rf (some y0)), some (.int y1), some (.int y2), some (.int (z3 + (1 : Int32))), none] dM_holdsBack_22 rfl (iic k32_1) (Or.inr (c1i rfl)) rfl ?_
      refine ax_goto 7 dM_holdsBack_25 (by decide) ?_
      exact ih (z3 + (1 : Int32)) h5 hf
    · refine ax_icmp_geT 28 dM_holdsBack_9 (by decide) hc ?_
      refine ax_mask [true, true, true, false, true] rfl [some (va_rf (some y0)), some (.int y1), some (.int y2), none, none] rfl ?_
      exact hk h hf
theorem w_M_holdsBack_L32 {l : Launch} {E : EN} {R : Room} {B : (Nat × Nat) × (Nat × Nat)} {Qf : QF} {r : Int32} {hF : AH} (hR1 : 3 ≤ R.frames) (hR2 : 192 ≤ R.locals) (Hr : (r = 0 ∨ r = 1) → ∀ (pc : Nat) (L : List (Option Value)), decode mi_M_holdsBack.2.1 pc = .ok (.ireturn, 1) → AW l E mi_M_holdsBack R B Qf pc L [.int r] hF) {y0 : Nat} {y1 : Int32} {k : AH → Option (Int32 × AH)} (hk : ∀ (h : AH), k h = some (r, hF) → AW l E mi_M_holdsBack R B Qf 82 [some (va_rf (some y0)), some (.int y1), none, none, none] [] h) : ∀ (n : Nat) (z3 : Int32) (h : AH), f_M_holdsBack_L32 y0 y1 k n z3 h = some (r, hF) → AW l E mi_M_holdsBack R B Qf 32 [some (va_rf (some y0)), some (.int y1), none, some (.int z3), none] [] h := by
  intro n
  induction n with
  | zero => intro z3 h hf; cases hf
  | succ n ih =>
    intro z3 h hf
    rw [f_M_holdsBack_L32] at hf
    refine ax_iload_n (i := 3) dM_holdsBack_32 rfl rfl ?_
    replace hf := ite_c hf
    rcases hf with ⟨hc, hf⟩ | ⟨hc, hf⟩
    · refine ax_if_ltT 82 dM_holdsBack_33 (by decide) hc ?_
      refine ax_mask [true, true, true, false, true] rfl [some (va_rf (some y0)), some (.int y1), none, none, none] rfl ?_
      exact hk h hf
    · refine ax_if_ltF 82 dM_holdsBack_33 (by decide) hc ?_
      refine ax_aload_n (i := 0) (some y0) dM_holdsBack_36 rfl rfl ?_
      replace hf := bd1_s hf
      obtain ⟨r8, e_r8, hf⟩ := hf
      refine ax_getR fl_1026 rfl dM_holdsBack_37 e_r8 ?_
      refine ax_iconst (5 : Int32) dM_holdsBack_40 k32_5 ?_
      refine ax_aload_n (i := 0) (some y0) dM_holdsBack_41 rfl rfl ?_
      replace hf := bd1_s hf
      obtain ⟨r9, e_r9, hf⟩ := hf
      refine ax_getR fl_1029 rfl dM_holdsBack_42 e_r9 ?_
      refine ax_iload_n (i := 3) dM_holdsBack_45 rfl rfl ?_
      replace hf := bd1_s hf
      obtain ⟨a10, e_d, hf⟩ := hf
      subst e_d
      replace hf := bd1_s hf
      obtain ⟨x11, e_x11, hf⟩ := hf
      refine ax_iald dM_holdsBack_46 e_x11 ?_
      refine ax_imul dM_holdsBack_47 ?_
      refine ax_iconst (4 : Int32) dM_holdsBack_48 k32_4 ?_
      refine ax_iadd dM_holdsBack_49 ?_
      replace hf := bd1_s hf
      obtain ⟨a12, e_d, hf⟩ := hf
      subst e_d
      replace hf := bd1_s hf
      obtain ⟨x13, e_x13, hf⟩ := hf
      refine ax_iald dM_holdsBack_50 e_x13 ?_
      refine ax_istore (i := 4) [some (va_rf (some y0)), some (.int y1), none, some (.int z3), some (.int x13)] dM_holdsBack_51 (Nat.le_of_ble_eq_true rfl) (Or.inr (c1i rfl)) rfl ?_
      refine ax_iload (i := 4) dM_holdsBack_53 rfl ?_
      refine ax_iconst (-1 : Int32) dM_holdsBack_55 k32_m1 ?_
      replace hf := ite_c hf
      rcases hf with ⟨hc, hf⟩ | ⟨hc, hf⟩
      · refine ax_icmp_eqT 68 dM_holdsBack_56 (by decide) hc ?_
        refine ax_iconst (0 : Int32) dM_holdsBack_68 k32_0 ?_
        cases hf
        exact Hr (Or.inl rfl) _ _ dM_holdsBack_69
      · refine ax_icmp_eqF 68 dM_holdsBack_56 (by decide) hc ?_
        refine ax_aload_n (i := 0) (some y0) dM_holdsBack_59 rfl rfl ?_
        refine ax_iload (i := 4) dM_holdsBack_60 rfl ?_
        replace hf := bd1_s hf
        obtain ⟨x14, e_x14, hf⟩ := hf
        obtain ⟨k_e_x14, e_x14⟩ := cv_s e_x14
        refine ax_callV (As := [.int x13]) (rest := []) (c_M_mayGo e_x14) ml_1448 cm_M_mayGo rfl k_e_x14 (Nat.le_trans (Nat.le_of_ble_eq_true rfl) hR1) (Nat.le_trans (Nat.le_of_ble_eq_true rfl) hR2) rfl rfl (Nat.le_of_ble_eq_true rfl) dM_holdsBack_62 ?_
        replace hf := ite_c hf
        rcases hf with ⟨hc, hf⟩ | ⟨hc, hf⟩
        · refine ax_if_neF 70 dM_holdsBack_65 (by decide) hc ?_
          refine ax_iconst (0 : Int32) dM_holdsBack_68 k32_0 ?_
          cases hf
          exact Hr (Or.inl rfl) _ _ dM_holdsBack_69
        · refine ax_if_neT 70 dM_holdsBack_65 (by decide) hc ?_
          refine ax_aload_n (i := 0) (some y0) dM_holdsBack_70 rfl rfl ?_
          refine ax_iload (i := 4) dM_holdsBack_71 rfl ?_
          replace hf := bd1_s hf
          obtain ⟨h15, e_h15, hf⟩ := hf
          obtain ⟨k_e_h15, e_h15⟩ := cv_s e_h15
          refine ax_callV (As := [.int x13]) (rest := []) (c_M_goOne e_h15) ml_1456 cm_M_goOne rfl k_e_h15 (Nat.le_trans (Nat.le_of_ble_eq_true rfl) hR1) (Nat.le_trans (Nat.le_of_ble_eq_true rfl) hR2) rfl rfl (Nat.le_of_ble_eq_true rfl) dM_holdsBack_73 ?_
          refine ax_iinc (i := 3) (z3 + (-1 : Int32)) [some (va_rf (some y0)), some (.int y1), none, some (.int (z3 + (-1 : Int32))), some (.int x13)] dM_holdsBack_76 rfl (iic k32_m1) (Or.inr (c1n rfl)) rfl ?_
          refine ax_goto 32 dM_holdsBack_79 (by decide) ?_
          refine ax_mask [true, true, true, true, false] rfl [some (va_rf (some y0)), some (.int y1), none, some (.int (z3 + (-1 : Int32))), none] rfl ?_
          exact ih (z3 + (-1 : Int32)) h15 hf
theorem v_M_holdsBack {l : Launch} {E : EN} {R : Room} {B : (Nat × Nat) × (Nat × Nat)} {Qf : QF} {h0 : AH} {o : Nat} {p1 : Int32} {p2 : Int32} {r : Int32} {hF : AH} (hR1 : 3 ≤ R.frames) (hR2 : 192 ≤ R.locals) (Hr : (r = 0 ∨ r = 1) → ∀ (pc : Nat) (L : List (Option Value)), decode mi_M_holdsBack.2.1 pc = .ok (.ireturn, 1) → AW l E mi_M_holdsBack R B Qf pc L [.int r] hF) (hf : f_M_holdsBack h0 o p1 p2 = some (r, hF)) : AW l E mi_M_holdsBack R B Qf 0 [some (va_rf (some o)), some (.int p1), some (.int p2), none, none] [] h0 := by
  unfold f_M_holdsBack at hf
  refine ax_aload_n (i := 0) (some o) dM_holdsBack_0 rfl rfl ?_
  refine ax_iload_n (i := 1) dM_holdsBack_1 rfl rfl ?_
  replace hf := bd1_s hf
  obtain ⟨h1, e_h1, hf⟩ := hf
  obtain ⟨k_e_h1, e_h1⟩ := cv_s e_h1
  refine ax_callV (As := [.int p1]) (rest := []) (c_M_start e_h1) ml_1444 cm_M_start rfl k_e_h1 (Nat.le_trans (Nat.le_of_ble_eq_true rfl) hR1) (Nat.le_trans (Nat.le_of_ble_eq_true rfl) hR2) rfl rfl (Nat.le_of_ble_eq_true rfl) dM_holdsBack_2 ?_
  refine ax_iconst (0 : Int32) dM_holdsBack_5 k32_0 ?_
  refine ax_istore_n (i := 3) [some (va_rf (some o)), some (.int p1), some (.int p2), some (.int (0 : Int32)), none] dM_holdsBack_6 rfl (Nat.le_of_ble_eq_true rfl) (Or.inr (c1i rfl)) rfl ?_
  refine w_M_holdsBack_L7 hR1 hR2 (fun h6 hf => ?_) FU (0 : Int32) h1 hf
  refine ax_iload_n (i := 2) dM_holdsBack_28 rfl rfl ?_
  refine ax_iconst (1 : Int32) dM_holdsBack_29 k32_1 ?_
  refine ax_isub dM_holdsBack_30 ?_
  replace hf := bd1_s hf
  obtain ⟨x7, e_x7, hf⟩ := hf
  refine ax_nmI (Option.some.inj e_x7) ?_
  refine ax_istore_n (i := 3) [some (va_rf (some o)), some (.int p1), some (.int p2), some (.int x7), none] dM_holdsBack_31 rfl (Nat.le_of_ble_eq_true rfl) (Or.inr (c1i rfl)) rfl ?_
  refine ax_mask [true, true, false, true, true] rfl [some (va_rf (some o)), some (.int p1), none, some (.int x7), none] rfl ?_
  refine w_M_holdsBack_L32 hR1 hR2 Hr (fun h16 hf => ?_) FU x7 h6 hf
  refine ax_aload_n (i := 0) (some o) dM_holdsBack_82 rfl rfl ?_
  replace hf := bd1_s hf
  obtain ⟨x17, e_x17, hf⟩ := hf
  refine ax_getI fl_1064 rfl dM_holdsBack_83 e_x17 ?_
  refine ax_iload_n (i := 1) dM_holdsBack_86 rfl rfl ?_
  replace hf := ite_c hf
  rcases hf with ⟨hc, hf⟩ | ⟨hc, hf⟩
  · refine ax_icmp_neF 94 dM_holdsBack_87 (by decide) hc ?_
    refine ax_iconst (1 : Int32) dM_holdsBack_90 k32_1 ?_
    refine ax_goto 95 dM_holdsBack_91 (by decide) ?_
    cases hf
    exact Hr (Or.inr rfl) _ _ dM_holdsBack_95
  · refine ax_icmp_neT 94 dM_holdsBack_87 (by decide) hc ?_
    refine ax_iconst (0 : Int32) dM_holdsBack_94 k32_0 ?_
    cases hf
    exact Hr (Or.inl rfl) _ _ dM_holdsBack_95
theorem c_M_holdsBack {l : Launch} {E : EN} {h0 : AH} {o : Nat} {p1 : Int32} {p2 : Int32} {r : Int32} {hF : AH} (hf : f_M_holdsBack h0 o p1 p2 = some (r, hF)) : AM l E 3 mi_M_holdsBack [va_rf (some o), .int p1, .int p2] h0 (some (.int r)) hF :=
  am_of2 [(va_rf (some o), false), (.int p1, false), (.int p2, false)] 2 ⟨cat_rf _, rfl, rfl, trivial⟩ rfl rfl (v_M_holdsBack (Nat.le_refl _) (Nat.le_refl _) (fun hz pc L hd => ax_zret rfl hz hd rfl) hf)
theorem w_M_undone_L34 {l : Launch} {E : EN} {R : Room} {B : (Nat × Nat) × (Nat × Nat)} {Qf : QF} {r : Int32} {hF : AH} (hR1 : 4 ≤ R.frames) (hR2 : 256 ≤ R.locals) (Hr : ∀ (pc : Nat) (L : List (Option Value)), decode mi_M_undone.2.1 pc = .ok (.ireturn, 1) → AW l E mi_M_undone R B Qf pc L [.int r] hF) {y0 : Nat} {y1 : Int32} : ∀ (n : Nat) (z2 : Int32) (z3 : Int32) (h : AH), f_M_undone_L34 y0 y1 n z2 z3 h = some (r, hF) → AW l E mi_M_undone R B Qf 34 [some (va_rf (some y0)), some (.int y1), some (.int z2), some (.int z3)] [] h := by
  intro n
  induction n with
  | zero => intro z2 z3 h hf; cases hf
  | succ n ih =>
    intro z2 z3 h hf
    rw [f_M_undone_L34] at hf
    refine ax_iload_n (i := 3) dM_undone_34 rfl rfl ?_
    refine ax_aload_n (i := 0) (some y0) dM_undone_35 rfl rfl ?_
    replace hf := bd1_s hf
    obtain ⟨x6, e_x6, hf⟩ := hf
    refine ax_getI fl_1028 rfl dM_undone_36 e_x6 ?_
    replace hf := ite_c hf
    rcases hf with ⟨hc, hf⟩ | ⟨hc, hf⟩
    · refine ax_icmp_gtT 67 dM_undone_39 (by decide) hc ?_
      refine ax_iload_n (i := 2) dM_undone_67 rfl rfl ?_
      cases hf
      exact Hr _ _ dM_undone_68
    · refine ax_icmp_gtF 67 dM_undone_39 (by decide) hc ?_
      refine ax_iload_n (i := 2) dM_undone_42 rfl rfl ?_
      refine ax_aload_n (i := 0) (some y0) dM_undone_43 rfl rfl ?_
      refine ax_iload_n (i := 1) dM_undone_44 rfl rfl ?_
      refine ax_iload_n (i := 3) dM_undone_45 rfl rfl ?_
      replace hf := bd2_s hf
      obtain ⟨x7, h8, e_x7, hf⟩ := hf
      obtain ⟨k_e_x7, e_x7⟩ := cv_s e_x7
      refine ax_callV (As := [.int y1, .int z3]) (rest := [.int z2]) (c_M_holdsBack e_x7) ml_1505 cm_M_holdsBack rfl k_e_x7 (Nat.le_trans (Nat.le_of_ble_eq_true rfl) hR1) (Nat.le_trans (Nat.le_of_ble_eq_true rfl) hR2) rfl rfl (Nat.le_of_ble_eq_true rfl) dM_undone_46 ?_
      replace hf := bd1_s hf
      obtain ⟨x9, hT, hf⟩ := hf
      have K : AW l E mi_M_undone R B Qf 59 [some (va_rf (some y0)), some (.int y1), none, some (.int z3)] [.int x9, .int z2] h8 := by
        clear hT
        refine ax_ior dM_undone_59 ?_
        replace hf := bd1_s hf
        obtain ⟨x10, e_x10, hf⟩ := hf
        refine ax_nmI (Option.some.inj e_x10) ?_
        refine ax_istore_n (i := 2) [some (va_rf (some y0)), some (.int y1), some (.int x10), some (.int z3)] dM_undone_60 rfl (Nat.le_of_ble_eq_true rfl) (Or.inr (c1i rfl)) rfl ?_
        refine ax_iinc (i := 3) (z3 + (1 : Int32)) [some (va_rf (some y0)), some (.int y1), some (.int x10), some (.int (z3 + (1 : Int32)))] dM_undone_61 rfl (iic k32_1) (Or.inr (c1i rfl)) rfl ?_
        refine ax_goto 34 dM_undone_64 (by decide) ?_
        exact ih x10 (z3 + (1 : Int32)) h8 hf
      replace hf := hT
      clear hT
      replace hf := ite_c hf
      rcases hf with ⟨hc, hf⟩ | ⟨hc, hf⟩
      · refine ax_if_eqT 58 dM_undone_49 (by decide) hc ?_
        refine ax_iconst (0 : Int32) dM_undone_58 k32_0 ?_
        refine ax_mask [true, true, false, true] rfl [some (va_rf (some y0)), some (.int y1), none, some (.int z3)] rfl ?_
        cases hf
        exact K
      · refine ax_if_eqF 58 dM_undone_49 (by decide) hc ?_
        refine ax_iconst (1 : Int32) dM_undone_52 k32_1 ?_
        refine ax_iload_n (i := 3) dM_undone_53 rfl rfl ?_
        refine ax_ishl dM_undone_54 ?_
        refine ax_goto 59 dM_undone_55 (by decide) ?_
        refine ax_mask [true, true, false, true] rfl [some (va_rf (some y0)), some (.int y1), none, some (.int z3)] rfl ?_
        cases hf
        exact K
theorem v_M_undone {l : Launch} {E : EN} {R : Room} {B : (Nat × Nat) × (Nat × Nat)} {Qf : QF} {h0 : AH} {o : Nat} {p1 : Int32} {r : Int32} {hF : AH} (hR1 : 4 ≤ R.frames) (hR2 : 256 ≤ R.locals) (Hr : ∀ (pc : Nat) (L : List (Option Value)), decode mi_M_undone.2.1 pc = .ok (.ireturn, 1) → AW l E mi_M_undone R B Qf pc L [.int r] hF) (hf : f_M_undone h0 o p1 = some (r, hF)) : AW l E mi_M_undone R B Qf 0 [some (va_rf (some o)), some (.int p1), none, none] [] h0 := by
  unfold f_M_undone at hf
  refine ax_iload_n (i := 1) dM_undone_0 rfl rfl ?_
  replace hf := bd1_s hf
  obtain ⟨x1, e_x1, hf⟩ := hf
  refine ax_callS (As := [.int p1]) (rest := []) (c_M_isSet e_x1) ml_1401 cm_M_isSet (Nat.le_trans (Nat.le_of_ble_eq_true rfl) hR1) (Nat.le_trans (Nat.le_of_ble_eq_true rfl) hR2) rfl rfl (Nat.le_of_ble_eq_true rfl) dM_undone_1 ?_
  replace hf := ite_c hf
  rcases hf with ⟨hc, hf⟩ | ⟨hc, hf⟩
  · refine ax_if_neF 10 dM_undone_4 (by decide) hc ?_
    refine ax_bipush (-102 : Int32) dM_undone_7 k8_m102 ?_
    cases hf
    exact Hr _ _ dM_undone_9
  · refine ax_if_neT 10 dM_undone_4 (by decide) hc ?_
    refine ax_aload_n (i := 0) (some o) dM_undone_10 rfl rfl ?_
    refine ax_aload_n (i := 0) (some o) dM_undone_11 rfl rfl ?_
    replace hf := bd1_s hf
    obtain ⟨r2, e_r2, hf⟩ := hf
    refine ax_getR fl_1029 rfl dM_undone_12 e_r2 ?_
    refine ax_aload_n (i := 0) (some o) dM_undone_15 rfl rfl ?_
    replace hf := bd1_s hf
    obtain ⟨x3, e_x3, hf⟩ := hf
    refine ax_getI fl_1028 rfl dM_undone_16 e_x3 ?_
    refine ax_iload_n (i := 1) dM_undone_19 rfl rfl ?_
    replace hf := bd2_s hf
    obtain ⟨x4, h5, e_x4, hf⟩ := hf
    obtain ⟨k_e_x4, e_x4⟩ := cv_s e_x4
    refine ax_callV (As := [va_rf r2, .int x3, .int p1]) (rest := []) (c_M_walkRow e_x4) ml_1440 cm_M_walkRow rfl k_e_x4 (Nat.le_trans (Nat.le_of_ble_eq_true rfl) hR1) (Nat.le_trans (Nat.le_of_ble_eq_true rfl) hR2) rfl rfl (Nat.le_of_ble_eq_true rfl) dM_undone_20 ?_
    refine ax_iconst (-1 : Int32) dM_undone_23 k32_m1 ?_
    replace hf := ite_c hf
    rcases hf with ⟨hc, hf⟩ | ⟨hc, hf⟩
    · refine ax_icmp_eqT 30 dM_undone_24 (by decide) hc ?_
      refine ax_iconst (0 : Int32) dM_undone_30 k32_0 ?_
      refine ax_istore_n (i := 2) [some (va_rf (some o)), some (.int p1), some (.int (0 : Int32)), none] dM_undone_31 rfl (Nat.le_of_ble_eq_true rfl) (Or.inr (c1i rfl)) rfl ?_
      refine ax_iconst (0 : Int32) dM_undone_32 k32_0 ?_
      refine ax_istore_n (i := 3) [some (va_rf (some o)), some (.int p1), some (.int (0 : Int32)), some (.int (0 : Int32))] dM_undone_33 rfl (Nat.le_of_ble_eq_true rfl) (Or.inr (c1i rfl)) rfl ?_
      refine w_M_undone_L34 hR1 hR2 Hr FU (0 : Int32) (0 : Int32) h5 hf
    · refine ax_icmp_eqF 30 dM_undone_24 (by decide) hc ?_
      refine ax_bipush (-103 : Int32) dM_undone_27 k8_m103 ?_
      cases hf
      exact Hr _ _ dM_undone_29
theorem c_M_undone {l : Launch} {E : EN} {h0 : AH} {o : Nat} {p1 : Int32} {r : Int32} {hF : AH} (hf : f_M_undone h0 o p1 = some (r, hF)) : AM l E 4 mi_M_undone [va_rf (some o), .int p1] h0 (some (.int r)) hF :=
  am_of2 [(va_rf (some o), false), (.int p1, false)] 2 ⟨cat_rf _, rfl, trivial⟩ rfl rfl (v_M_undone (Nat.le_refl _) (Nat.le_refl _) (fun pc L hd => ax_iret rfl hd rfl) hf)
theorem v_M_begin {l : Launch} {E : EN} {R : Room} {B : (Nat × Nat) × (Nat × Nat)} {Qf : QF} {h0 : AH} {o : Nat} {p1 : Int32} {r : Int32} {hF : AH} (hR1 : 3 ≤ R.frames) (hR2 : 192 ≤ R.locals) (Hr : ∀ (pc : Nat) (L : List (Option Value)), decode mi_M_begin.2.1 pc = .ok (.ireturn, 1) → AW l E mi_M_begin R B Qf pc L [.int r] hF) (hf : f_M_begin h0 o p1 = some (r, hF)) : AW l E mi_M_begin R B Qf 0 [some (va_rf (some o)), some (.int p1)] [] h0 := by
  unfold f_M_begin at hf
  refine ax_iload_n (i := 1) dM_begin_0 rfl rfl ?_
  replace hf := bd1_s hf
  obtain ⟨x1, e_x1, hf⟩ := hf
  refine ax_callS (As := [.int p1]) (rest := []) (c_M_isSet e_x1) ml_1401 cm_M_isSet (Nat.le_trans (Nat.le_of_ble_eq_true rfl) hR1) (Nat.le_trans (Nat.le_of_ble_eq_true rfl) hR2) rfl rfl (Nat.le_of_ble_eq_true rfl) dM_begin_1 ?_
  replace hf := ite_c hf
  rcases hf with ⟨hc, hf⟩ | ⟨hc, hf⟩
  · refine ax_if_neF 10 dM_begin_4 (by decide) hc ?_
    refine ax_bipush (-102 : Int32) dM_begin_7 k8_m102 ?_
    cases hf
    exact Hr _ _ dM_begin_9
  · refine ax_if_neT 10 dM_begin_4 (by decide) hc ?_
    refine ax_aload_n (i := 0) (some o) dM_begin_10 rfl rfl ?_
    refine ax_iload_n (i := 1) dM_begin_11 rfl rfl ?_
    replace hf := bd1_s hf
    obtain ⟨h2, e_h2, hf⟩ := hf
    refine ax_putI fw_1030 rfl rfl dM_begin_12 e_h2 ?_
    refine ax_aload_n (i := 0) (some o) dM_begin_15 rfl rfl ?_
    refine ax_iconst (0 : Int32) dM_begin_16 k32_0 ?_
    replace hf := bd1_s hf
    obtain ⟨h3, e_h3, hf⟩ := hf
    refine ax_putI fw_1031 rfl rfl dM_begin_17 e_h3 ?_
    refine ax_iconst (1 : Int32) dM_begin_20 k32_1 ?_
    cases hf
    exact Hr _ _ dM_begin_21
theorem c_M_begin {l : Launch} {E : EN} {h0 : AH} {o : Nat} {p1 : Int32} {r : Int32} {hF : AH} (hf : f_M_begin h0 o p1 = some (r, hF)) : AM l E 3 mi_M_begin [va_rf (some o), .int p1] h0 (some (.int r)) hF :=
  am_of2 [(va_rf (some o), false), (.int p1, false)] 0 ⟨cat_rf _, rfl, trivial⟩ rfl rfl (v_M_begin (Nat.le_refl _) (Nat.le_refl _) (fun pc L hd => ax_iret rfl hd rfl) hf)
theorem v_M_add {l : Launch} {E : EN} {R : Room} {B : (Nat × Nat) × (Nat × Nat)} {Qf : QF} {h0 : AH} {o : Nat} {p1 : Int32} {p2 : Int32} {r : Int32} {hF : AH} (hR1 : 1 ≤ R.frames) (hR2 : 64 ≤ R.locals) (Hr : ∀ (pc : Nat) (L : List (Option Value)), decode mi_M_add.2.1 pc = .ok (.ireturn, 1) → AW l E mi_M_add R B Qf pc L [.int r] hF) (hf : f_M_add h0 o p1 p2 = some (r, hF)) : AW l E mi_M_add R B Qf 0 [some (va_rf (some o)), some (.int p1), some (.int p2)] [] h0 := by
  unfold f_M_add at hf
  refine ax_aload_n (i := 0) (some o) dM_add_0 rfl rfl ?_
  replace hf := bd1_s hf
  obtain ⟨x1, e_x1, hf⟩ := hf
  refine ax_getI fl_1031 rfl dM_add_1 e_x1 ?_
  refine ax_bipush (30 : Int32) dM_add_4 k8_30 ?_
  replace hf := ite_c hf
  rcases hf with ⟨hc, hf⟩ | ⟨hc, hf⟩
  · refine ax_icmp_neF 12 dM_add_6 (by decide) hc ?_
    refine ax_bipush (-104 : Int32) dM_add_9 k8_m104 ?_
    cases hf
    exact Hr _ _ dM_add_11
  · refine ax_icmp_neT 12 dM_add_6 (by decide) hc ?_
    refine ax_aload_n (i := 0) (some o) dM_add_12 rfl rfl ?_
    replace hf := bd1_s hf
    obtain ⟨r2, e_r2, hf⟩ := hf
    refine ax_getR fl_1032 rfl dM_add_13 e_r2 ?_
    refine ax_aload_n (i := 0) (some o) dM_add_16 rfl rfl ?_
    replace hf := bd1_s hf
    obtain ⟨x3, e_x3, hf⟩ := hf
    refine ax_getI fl_1031 rfl dM_add_17 e_x3 ?_
    refine ax_iload_n (i := 1) dM_add_20 rfl rfl ?_
    replace hf := bd1_s hf
    obtain ⟨a4, e_d, hf⟩ := hf
    subst e_d
    replace hf := bd1_s hf
    obtain ⟨h5, e_h5, hf⟩ := hf
    refine ax_iast dM_add_21 e_h5 ?_
    refine ax_aload_n (i := 0) (some o) dM_add_22 rfl rfl ?_
    replace hf := bd1_s hf
    obtain ⟨r6, e_r6, hf⟩ := hf
    refine ax_getR fl_1033 rfl dM_add_23 e_r6 ?_
    refine ax_aload_n (i := 0) (some o) dM_add_26 rfl rfl ?_
    replace hf := bd1_s hf
    obtain ⟨x7, e_x7, hf⟩ := hf
    refine ax_getI fl_1031 rfl dM_add_27 e_x7 ?_
    refine ax_iload_n (i := 2) dM_add_30 rfl rfl ?_
    replace hf := bd1_s hf
    obtain ⟨a8, e_d, hf⟩ := hf
    subst e_d
    replace hf := bd1_s hf
    obtain ⟨h9, e_h9, hf⟩ := hf
    refine ax_iast dM_add_31 e_h9 ?_
    refine ax_aload_n (i := 0) (some o) dM_add_32 rfl rfl ?_
    refine ax_dup dM_add_33 rfl ?_
    replace hf := bd1_s hf
    obtain ⟨x10, e_x10, hf⟩ := hf
    refine ax_getI fl_1031 rfl dM_add_34 e_x10 ?_
    refine ax_iconst (1 : Int32) dM_add_37 k32_1 ?_
    refine ax_iadd dM_add_38 ?_
    replace hf := bd1_s hf
    obtain ⟨h11, e_h11, hf⟩ := hf
    refine ax_putI fw_1031 rfl rfl dM_add_39 e_h11 ?_
    refine ax_aload_n (i := 0) (some o) dM_add_42 rfl rfl ?_
    replace hf := bd1_s hf
    obtain ⟨x12, e_x12, hf⟩ := hf
    refine ax_getI fl_1031 rfl dM_add_43 e_x12 ?_
    cases hf
    exact Hr _ _ dM_add_46
theorem c_M_add {l : Launch} {E : EN} {h0 : AH} {o : Nat} {p1 : Int32} {p2 : Int32} {r : Int32} {hF : AH} (hf : f_M_add h0 o p1 p2 = some (r, hF)) : AM l E 1 mi_M_add [va_rf (some o), .int p1, .int p2] h0 (some (.int r)) hF :=
  am_of2 [(va_rf (some o), false), (.int p1, false), (.int p2, false)] 0 ⟨cat_rf _, rfl, rfl, trivial⟩ rfl rfl (v_M_add (Nat.le_refl _) (Nat.le_refl _) (fun pc L hd => ax_iret rfl hd rfl) hf)
theorem v_M_call {l : Launch} {E : EN} {R : Room} {B : (Nat × Nat) × (Nat × Nat)} {Qf : QF} {h0 : AH} {o : Nat} {p1 : Int32} {p2 : Int32} {r : Int32} {hF : AH} (hR1 : 3 ≤ R.frames) (hR2 : 192 ≤ R.locals) (Hr : ∀ (pc : Nat) (L : List (Option Value)), decode mi_M_call.2.1 pc = .ok (.ireturn, 1) → AW l E mi_M_call R B Qf pc L [.int r] hF) (hf : f_M_call h0 o p1 p2 = some (r, hF)) : AW l E mi_M_call R B Qf 0 [some (va_rf (some o)), some (.int p1), some (.int p2)] [] h0 := by
  unfold f_M_call at hf
  refine ax_aload_n (i := 0) (some o) dM_call_0 rfl rfl ?_
  refine ax_iload_n (i := 1) dM_call_1 rfl rfl ?_
  replace hf := bd1_s hf
  obtain ⟨x1, e_x1, hf⟩ := hf
  obtain ⟨k_e_x1, e_x1⟩ := cv_s e_x1
  refine ax_callV (As := [.int p1]) (rest := []) (c_M_isHelper e_x1) ml_1408 cm_M_isHelper rfl k_e_x1 (Nat.le_trans (Nat.le_of_ble_eq_true rfl) hR1) (Nat.le_trans (Nat.le_of_ble_eq_true rfl) hR2) rfl rfl (Nat.le_of_ble_eq_true rfl) dM_call_2 ?_
  replace hf := ite_c hf
  rcases hf with ⟨hc, hf⟩ | ⟨hc, hf⟩
  · refine ax_if_neF 11 dM_call_5 (by decide) hc ?_
    refine ax_bipush (-101 : Int32) dM_call_8 k8_m101 ?_
    cases hf
    exact Hr _ _ dM_call_10
  · refine ax_if_neT 11 dM_call_5 (by decide) hc ?_
    refine ax_iload_n (i := 2) dM_call_11 rfl rfl ?_
    refine ax_iconst (0 : Int32) dM_call_12 k32_0 ?_
    refine ax_iconst (2 : Int32) dM_call_13 k32_2 ?_
    replace hf := bd1_s hf
    obtain ⟨x2, e_x2, hf⟩ := hf
    refine ax_callS (As := [.int p2, .int (0 : Int32), .int (2 : Int32)]) (rest := []) (c_M_in e_x2) ml_1215 cm_M_in (Nat.le_trans (Nat.le_of_ble_eq_true rfl) hR1) (Nat.le_trans (Nat.le_of_ble_eq_true rfl) hR2) rfl rfl (Nat.le_of_ble_eq_true rfl) dM_call_14 ?_
    replace hf := ite_c hf
    rcases hf with ⟨hc, hf⟩ | ⟨hc, hf⟩
    · refine ax_if_eqT 29 dM_call_17 (by decide) hc ?_
      refine ax_bipush (-102 : Int32) dM_call_29 k8_m102 ?_
      cases hf
      exact Hr _ _ dM_call_31
    · refine ax_if_eqF 29 dM_call_17 (by decide) hc ?_
      refine ax_aload_n (i := 0) (some o) dM_call_20 rfl rfl ?_
      refine ax_iload_n (i := 2) dM_call_21 rfl rfl ?_
      refine ax_iload_n (i := 1) dM_call_22 rfl rfl ?_
      replace hf := bd2_s hf
      obtain ⟨x3, h4, e_x3, hf⟩ := hf
      obtain ⟨k_e_x3, e_x3⟩ := cv_s e_x3
      refine ax_callV (As := [.int p2, .int p1]) (rest := []) (c_M_add e_x3) ml_1517 cm_M_add rfl k_e_x3 (Nat.le_trans (Nat.le_of_ble_eq_true rfl) hR1) (Nat.le_trans (Nat.le_of_ble_eq_true rfl) hR2) rfl rfl (Nat.le_of_ble_eq_true rfl) dM_call_23 ?_
      refine ax_goto 31 dM_call_26 (by decide) ?_
      cases hf
      exact Hr _ _ dM_call_31
theorem c_M_call {l : Launch} {E : EN} {h0 : AH} {o : Nat} {p1 : Int32} {p2 : Int32} {r : Int32} {hF : AH} (hf : f_M_call h0 o p1 p2 = some (r, hF)) : AM l E 3 mi_M_call [va_rf (some o), .int p1, .int p2] h0 (some (.int r)) hF :=
  am_of2 [(va_rf (some o), false), (.int p1, false), (.int p2, false)] 0 ⟨cat_rf _, rfl, rfl, trivial⟩ rfl rfl (v_M_call (Nat.le_refl _) (Nat.le_refl _) (fun pc L hd => ax_iret rfl hd rfl) hf)
theorem v_M_see {l : Launch} {E : EN} {R : Room} {B : (Nat × Nat) × (Nat × Nat)} {Qf : QF} {h0 : AH} {o : Nat} {p1 : Int32} {p2 : Int32} {r : Int32} {hF : AH} (hR1 : 2 ≤ R.frames) (hR2 : 128 ≤ R.locals) (Hr : ∀ (pc : Nat) (L : List (Option Value)), decode mi_M_see.2.1 pc = .ok (.ireturn, 1) → AW l E mi_M_see R B Qf pc L [.int r] hF) (hf : f_M_see h0 o p1 p2 = some (r, hF)) : AW l E mi_M_see R B Qf 0 [some (va_rf (some o)), some (.int p1), some (.int p2)] [] h0 := by
  unfold f_M_see at hf
  refine ax_iload_n (i := 1) dM_see_0 rfl rfl ?_
  refine ax_iconst (0 : Int32) dM_see_1 k32_0 ?_
  refine ax_bipush (11 : Int32) dM_see_2 k8_11 ?_
  replace hf := bd1_s hf
  obtain ⟨x1, e_x1, hf⟩ := hf
  refine ax_callS (As := [.int p1, .int (0 : Int32), .int (11 : Int32)]) (rest := []) (c_M_in e_x1) ml_1215 cm_M_in (Nat.le_trans (Nat.le_of_ble_eq_true rfl) hR1) (Nat.le_trans (Nat.le_of_ble_eq_true rfl) hR2) rfl rfl (Nat.le_of_ble_eq_true rfl) dM_see_4 ?_
  replace hf := ite_c hf
  rcases hf with ⟨hc, hf⟩ | ⟨hc, hf⟩
  · refine ax_if_eqT 27 dM_see_7 (by decide) hc ?_
    refine ax_bipush (-101 : Int32) dM_see_27 k8_m101 ?_
    cases hf
    exact Hr _ _ dM_see_29
  · refine ax_if_eqF 27 dM_see_7 (by decide) hc ?_
    refine ax_aload_n (i := 0) (some o) dM_see_10 rfl rfl ?_
    refine ax_iload_n (i := 2) dM_see_11 rfl rfl ?_
    replace hf := bd1_s hf
    obtain ⟨x2, hT, hf⟩ := hf
    have K : AW l E mi_M_see R B Qf 20 [none, some (.int p1), none] [.int x2, va_rf (some o)] h0 := by
      clear hT
      refine ax_iload_n (i := 1) dM_see_20 rfl rfl ?_
      replace hf := bd2_s hf
      obtain ⟨x3, h4, e_x3, hf⟩ := hf
      obtain ⟨k_e_x3, e_x3⟩ := cv_s e_x3
      refine ax_callV (As := [.int x2, .int p1]) (rest := []) (c_M_add e_x3) ml_1517 cm_M_add rfl k_e_x3 (Nat.le_trans (Nat.le_of_ble_eq_true rfl) hR1) (Nat.le_trans (Nat.le_of_ble_eq_true rfl) hR2) rfl rfl (Nat.le_of_ble_eq_true rfl) dM_see_21 ?_
      refine ax_goto 29 dM_see_24 (by decide) ?_
      cases hf
      exact Hr _ _ dM_see_29
    replace hf := hT
    clear hT
    replace hf := ite_c hf
    rcases hf with ⟨hc, hf⟩ | ⟨hc, hf⟩
    · refine ax_if_eqT 19 dM_see_12 (by decide) hc ?_
      refine ax_iconst (4 : Int32) dM_see_19 k32_4 ?_
      refine ax_mask [false, true, false] rfl [none, some (.int p1), none] rfl ?_
      cases hf
      exact K
    · refine ax_if_eqF 19 dM_see_12 (by decide) hc ?_
      refine ax_iconst (3 : Int32) dM_see_15 k32_3 ?_
      refine ax_goto 20 dM_see_16 (by decide) ?_
      refine ax_mask [false, true, false] rfl [none, some (.int p1), none] rfl ?_
      cases hf
      exact K
theorem c_M_see {l : Launch} {E : EN} {h0 : AH} {o : Nat} {p1 : Int32} {p2 : Int32} {r : Int32} {hF : AH} (hf : f_M_see h0 o p1 p2 = some (r, hF)) : AM l E 2 mi_M_see [va_rf (some o), .int p1, .int p2] h0 (some (.int r)) hF :=
  am_of2 [(va_rf (some o), false), (.int p1, false), (.int p2, false)] 0 ⟨cat_rf _, rfl, rfl, trivial⟩ rfl rfl (v_M_see (Nat.le_refl _) (Nat.le_refl _) (fun pc L hd => ax_iret rfl hd rfl) hf)
theorem v_M_strike {l : Launch} {E : EN} {R : Room} {B : (Nat × Nat) × (Nat × Nat)} {Qf : QF} {h0 : AH} {o : Nat} {r : Int32} {hF : AH} (hR1 : 1 ≤ R.frames) (hR2 : 64 ≤ R.locals) (Hr : ∀ (pc : Nat) (L : List (Option Value)), decode mi_M_strike.2.1 pc = .ok (.ireturn, 1) → AW l E mi_M_strike R B Qf pc L [.int r] hF) (hf : f_M_strike h0 o = some (r, hF)) : AW l E mi_M_strike R B Qf 0 [some (va_rf (some o))] [] h0 := by
  unfold f_M_strike at hf
  refine ax_aload_n (i := 0) (some o) dM_strike_0 rfl rfl ?_
  replace hf := bd1_s hf
  obtain ⟨x1, e_x1, hf⟩ := hf
  refine ax_getI fl_1031 rfl dM_strike_1 e_x1 ?_
  replace hf := ite_c hf
  rcases hf with ⟨hc, hf⟩ | ⟨hc, hf⟩
  · refine ax_if_neF 10 dM_strike_4 (by decide) hc ?_
    refine ax_bipush (-103 : Int32) dM_strike_7 k8_m103 ?_
    cases hf
    exact Hr _ _ dM_strike_9
  · refine ax_if_neT 10 dM_strike_4 (by decide) hc ?_
    refine ax_aload_n (i := 0) (some o) dM_strike_10 rfl rfl ?_
    refine ax_dup dM_strike_11 rfl ?_
    replace hf := bd1_s hf
    obtain ⟨x2, e_x2, hf⟩ := hf
    refine ax_getI fl_1031 rfl dM_strike_12 e_x2 ?_
    refine ax_iconst (1 : Int32) dM_strike_15 k32_1 ?_
    refine ax_isub dM_strike_16 ?_
    replace hf := bd1_s hf
    obtain ⟨h3, e_h3, hf⟩ := hf
    refine ax_putI fw_1031 rfl rfl dM_strike_17 e_h3 ?_
    refine ax_aload_n (i := 0) (some o) dM_strike_20 rfl rfl ?_
    replace hf := bd1_s hf
    obtain ⟨x4, e_x4, hf⟩ := hf
    refine ax_getI fl_1031 rfl dM_strike_21 e_x4 ?_
    cases hf
    exact Hr _ _ dM_strike_24
theorem c_M_strike {l : Launch} {E : EN} {h0 : AH} {o : Nat} {r : Int32} {hF : AH} (hf : f_M_strike h0 o = some (r, hF)) : AM l E 1 mi_M_strike [va_rf (some o)] h0 (some (.int r)) hF :=
  am_of2 [(va_rf (some o), false)] 0 ⟨cat_rf _, trivial⟩ rfl rfl (v_M_strike (Nat.le_refl _) (Nat.le_refl _) (fun pc L hd => ax_iret rfl hd rfl) hf)
theorem v_M_did {l : Launch} {E : EN} {R : Room} {B : (Nat × Nat) × (Nat × Nat)} {Qf : QF} {h0 : AH} {o : Nat} {p1 : Int32} {p2 : Int32} {r : Int32} (hR1 : 1 ≤ R.frames) (hR2 : 64 ≤ R.locals) (Hr : ∀ (pc : Nat) (L : List (Option Value)), decode mi_M_did.2.1 pc = .ok (.ireturn, 1) → AW l E mi_M_did R B Qf pc L [.int r] h0) (hf : f_M_did h0 o p1 p2 = some r) : AW l E mi_M_did R B Qf 0 [some (va_rf (some o)), some (.int p1), some (.int p2)] [] h0 := by
  unfold f_M_did at hf
  refine ax_iload_n (i := 1) dM_did_0 rfl rfl ?_
  refine ax_aload_n (i := 0) (some o) dM_did_1 rfl rfl ?_
  replace hf := bd1_s hf
  obtain ⟨r1, e_r1, hf⟩ := hf
  refine ax_getR fl_1025 rfl dM_did_2 e_r1 ?_
  refine ax_iload_n (i := 2) dM_did_5 rfl rfl ?_
  replace hf := bd1_s hf
  obtain ⟨a2, e_d, hf⟩ := hf
  subst e_d
  replace hf := bd1_s hf
  obtain ⟨x3, e_x3, hf⟩ := hf
  refine ax_iald dM_did_6 e_x3 ?_
  refine ax_iconst (-1 : Int32) dM_did_7 k32_m1 ?_
  refine ax_ixor dM_did_8 ?_
  refine ax_iand dM_did_9 ?_
  refine ax_aload_n (i := 0) (some o) dM_did_10 rfl rfl ?_
  replace hf := bd1_s hf
  obtain ⟨r4, e_r4, hf⟩ := hf
  refine ax_getR fl_1024 rfl dM_did_11 e_r4 ?_
  refine ax_iload_n (i := 2) dM_did_14 rfl rfl ?_
  replace hf := bd1_s hf
  obtain ⟨a5, e_d, hf⟩ := hf
  subst e_d
  replace hf := bd1_s hf
  obtain ⟨x6, e_x6, hf⟩ := hf
  refine ax_iald dM_did_15 e_x6 ?_
  refine ax_ior dM_did_16 ?_
  cases hf
  exact Hr _ _ dM_did_17
theorem c_M_did {l : Launch} {E : EN} {h0 : AH} {o : Nat} {p1 : Int32} {p2 : Int32} {r : Int32} (hf : f_M_did h0 o p1 p2 = some r) : AM l E 1 mi_M_did [va_rf (some o), .int p1, .int p2] h0 (some (.int r)) h0 :=
  am_of2 [(va_rf (some o), false), (.int p1, false), (.int p2, false)] 0 ⟨cat_rf _, rfl, rfl, trivial⟩ rfl rfl (v_M_did (Nat.le_refl _) (Nat.le_refl _) (fun pc L hd => ax_iret rfl hd rfl) hf)
theorem w_M_pass_L17 {l : Launch} {E : EN} {R : Room} {B : (Nat × Nat) × (Nat × Nat)} {Qf : QF} {ρ : Type} {res : ρ} (hR1 : 2 ≤ R.frames) (hR2 : 128 ≤ R.locals) {y0 : Nat} {y2 : Int32} {y3 : Int32} {k : AH → Option (ρ)} (hk : ∀ (h : AH), k h = some res → AW l E mi_M_pass R B Qf 39 [some (va_rf (some y0)), none, some (.int y2), some (.int y3), none, none, none] [] h) : ∀ (n : Nat) (z4 : Int32) (h : AH), f_M_pass_L17 y0 y2 y3 k n z4 h = some res → AW l E mi_M_pass R B Qf 17 [some (va_rf (some y0)), none, some (.int y2), some (.int y3), some (.int z4), none, none] [] h := by
  intro n
  induction n with
  | zero => intro z4 h hf; cases hf
  | succ n ih =>
    intro z4 h hf
    rw [f_M_pass_L17] at hf
    refine ax_iload (i := 4) dM_pass_17 rfl ?_
    refine ax_sipush (4096 : Int32) dM_pass_19 k16_4096 ?_
    replace hf := ite_c hf
    rcases hf with ⟨hc, hf⟩ | ⟨hc, hf⟩
    · refine ax_icmp_geF 39 dM_pass_22 (by decide) hc ?_
      refine ax_aload_n (i := 0) (some y0) dM_pass_25 rfl rfl ?_
      replace hf := bd1_s hf
      obtain ⟨r7, e_r7, hf⟩ := hf
      refine ax_getR fl_1069 rfl dM_pass_26 e_r7 ?_
      refine ax_iload (i := 4) dM_pass_29 rfl ?_
      refine ax_iconst (0 : Int32) dM_pass_31 k32_0 ?_
      replace hf := bd1_s hf
      obtain ⟨a8, e_d, hf⟩ := hf
      subst e_d
      replace hf := bd1_s hf
      obtain ⟨h9, e_h9, hf⟩ := hf
      refine ax_zast dM_pass_32 e_h9 ?_
      refine ax_iinc (i := 4) (z4 + (1 : Int32)) [some (va_rf (some y0)), none, some (.int y2), some (.int y3), some (.int (z4 + (1 : Int32))), none, none] dM_pass_33 rfl (iic k32_1) (Or.inr (c1i rfl)) rfl ?_
      refine ax_goto 17 dM_pass_36 (by decide) ?_
      exact ih (z4 + (1 : Int32)) h9 hf
    · refine ax_icmp_geT 39 dM_pass_22 (by decide) hc ?_
      refine ax_mask [true, true, true, true, false, true, true] rfl [some (va_rf (some y0)), none, some (.int y2), some (.int y3), none, none, none] rfl ?_
      exact hk h hf
theorem w_M_pass_L42 {l : Launch} {E : EN} {R : Room} {B : (Nat × Nat) × (Nat × Nat)} {Qf : QF} {ρ : Type} {res : ρ} (hR1 : 2 ≤ R.frames) (hR2 : 128 ≤ R.locals) {y0 : Nat} {y2 : Int32} {y3 : Int32} {k : AH → Option (ρ)} (hk : ∀ (h : AH), k h = some res → AW l E mi_M_pass R B Qf 188 [some (va_rf (some y0)), none, none, none, none, none, none] [] h) : ∀ (n : Nat) (z4 : Int32) (h : AH), f_M_pass_L42 y0 y2 y3 k n z4 h = some res → AW l E mi_M_pass R B Qf 42 [some (va_rf (some y0)), none, some (.int y2), some (.int y3), some (.int z4), none, none] [] h := by
  intro n
  induction n with
  | zero => intro z4 h hf; cases hf
  | succ n ih =>
    intro z4 h hf
    rw [f_M_pass_L42] at hf
    refine ax_iload (i := 4) dM_pass_42 rfl ?_
    refine ax_sipush (4096 : Int32) dM_pass_44 k16_4096 ?_
    replace hf := ite_c hf
    rcases hf with ⟨hc, hf⟩ | ⟨hc, hf⟩
    · refine ax_icmp_geF 188 dM_pass_47 (by decide) hc ?_
      refine ax_aload_n (i := 0) (some y0) dM_pass_50 rfl rfl ?_
      replace hf := bd1_s hf
      obtain ⟨r11, e_r11, hf⟩ := hf
      refine ax_getR fl_1068 rfl dM_pass_51 e_r11 ?_
      refine ax_iload (i := 4) dM_pass_54 rfl ?_
      replace hf := bd1_s hf
      obtain ⟨a12, e_d, hf⟩ := hf
      subst e_d
      replace hf := bd1_s hf
      obtain ⟨x13, e_x13, hf⟩ := hf
      refine ax_zald dM_pass_56 e_x13 ?_
      replace hf := ite_c hf
      rcases hf with ⟨hc, hf⟩ | ⟨hc, hf⟩
      · refine ax_if_eqT 182 dM_pass_57 (by decide) hc ?_
        refine ax_iinc (i := 4) (z4 + (1 : Int32)) [some (va_rf (some y0)), none, some (.int y2), some (.int y3), some (.int (z4 + (1 : Int32))), none, none] dM_pass_182 rfl (iic k32_1) (Or.inr (c1i rfl)) rfl ?_
        refine ax_goto 42 dM_pass_185 (by decide) ?_
        exact ih (z4 + (1 : Int32)) h hf
      · refine ax_if_eqF 182 dM_pass_57 (by decide) hc ?_
        refine ax_iload_n (i := 2) dM_pass_60 rfl rfl ?_
        refine ax_iconst (3 : Int32) dM_pass_61 k32_3 ?_
        replace hf := bd1_s hf
        obtain ⟨x17, hT, hf⟩ := hf
        have K : AW l E mi_M_pass R B Qf 84 [some (va_rf (some y0)), none, some (.int y2), some (.int y3), some (.int z4), none, none] [.int x17] h := by
          clear hT
          refine ax_istore (i := 5) [some (va_rf (some y0)), none, some (.int y2), some (.int y3), some (.int z4), some (.int x17), none] dM_pass_84 (Nat.le_of_ble_eq_true rfl) (Or.inr (c1i rfl)) rfl ?_
          refine ax_iload_n (i := 2) dM_pass_86 rfl rfl ?_
          refine ax_iconst (1 : Int32) dM_pass_87 k32_1 ?_
          replace hf := bd1_s hf
          obtain ⟨x18, hT, hf⟩ := hf
          have K : AW l E mi_M_pass R B Qf 130 [some (va_rf (some y0)), none, some (.int y2), some (.int y3), some (.int z4), some (.int x17), none] [.int x18] h := by
            clear hT
            refine ax_istore (i := 6) [some (va_rf (some y0)), none, some (.int y2), some (.int y3), some (.int z4), some (.int x17), some (.int x18)] dM_pass_130 (Nat.le_of_ble_eq_true rfl) (Or.inr (c1i rfl)) rfl ?_
            refine ax_aload_n (i := 0) (some y0) dM_pass_132 rfl rfl ?_
            replace hf := bd1_s hf
            obtain ⟨r19, e_r19, hf⟩ := hf
            refine ax_getR fl_1069 rfl dM_pass_133 e_r19 ?_
            refine ax_iload (i := 4) dM_pass_136 rfl ?_
            refine ax_aload_n (i := 0) (some y0) dM_pass_138 rfl rfl ?_
            replace hf := bd1_s hf
            obtain ⟨r20, e_r20, hf⟩ := hf
            refine ax_getR fl_1069 rfl dM_pass_139 e_r20 ?_
            refine ax_iload (i := 4) dM_pass_142 rfl ?_
            replace hf := bd1_s hf
            obtain ⟨a21, e_d, hf⟩ := hf
            subst e_d
            replace hf := bd1_s hf
            obtain ⟨x22, e_x22, hf⟩ := hf
            refine ax_zald dM_pass_144 e_x22 ?_
            replace hf := bd1_s hf
            obtain ⟨x23, hT, hf⟩ := hf
            have K : AW l E mi_M_pass R B Qf 158 [some (va_rf (some y0)), none, some (.int y2), some (.int y3), some (.int z4), some (.int x17), none] [.int x23, .int z4, va_rf r19] h := by
              clear hT
              replace hf := bd1_s hf
              obtain ⟨a24, e_d, hf⟩ := hf
              subst e_d
              replace hf := bd1_s hf
              obtain ⟨h25, e_h25, hf⟩ := hf
              refine ax_zast dM_pass_158 e_h25 ?_
              refine ax_iload (i := 5) dM_pass_159 rfl ?_
              replace hf := ite_c hf
              rcases hf with ⟨hc, hf⟩ | ⟨hc, hf⟩
              · refine ax_if_eqT 182 dM_pass_161 (by decide) hc ?_
                refine ax_iinc (i := 4) (z4 + (1 : Int32)) [some (va_rf (some y0)), none, some (.int y2), some (.int y3), some (.int (z4 + (1 : Int32))), some (.int x17), none] dM_pass_182 rfl (iic k32_1) (Or.inr (c1i rfl)) rfl ?_
                refine ax_goto 42 dM_pass_185 (by decide) ?_
                refine ax_mask [true, true, true, true, true, false, true] rfl [some (va_rf (some y0)), none, some (.int y2), some (.int y3), some (.int (z4 + (1 : Int32))), none, none] rfl ?_
                exact ih (z4 + (1 : Int32)) h25 hf
              · refine ax_if_eqF 182 dM_pass_161 (by decide) hc ?_
                refine ax_iload_n (i := 2) dM_pass_164 rfl rfl ?_
                refine ax_iconst (1 : Int32) dM_pass_165 k32_1 ?_
                replace hf := ite_c hf
                rcases hf with ⟨hc, hf⟩ | ⟨hc, hf⟩
                · refine ax_icmp_eqT 182 dM_pass_166 (by decide) hc ?_
                  refine ax_iinc (i := 4) (z4 + (1 : Int32)) [some (va_rf (some y0)), none, some (.int y2), some (.int y3), some (.int (z4 + (1 : Int32))), some (.int x17), none] dM_pass_182 rfl (iic k32_1) (Or.inr (c1i rfl)) rfl ?_
                  refine ax_goto 42 dM_pass_185 (by decide) ?_
                  refine ax_mask [true, true, true, true, true, false, true] rfl [some (va_rf (some y0)), none, some (.int y2), some (.int y3), some (.int (z4 + (1 : Int32))), none, none] rfl ?_
                  exact ih (z4 + (1 : Int32)) h25 hf
                · refine ax_icmp_eqF 182 dM_pass_166 (by decide) hc ?_
                  refine ax_aload_n (i := 0) (some y0) dM_pass_169 rfl rfl ?_
                  replace hf := bd1_s hf
                  obtain ⟨r26, e_r26, hf⟩ := hf
                  refine ax_getR fl_1069 rfl dM_pass_170 e_r26 ?_
                  refine ax_aload_n (i := 0) (some y0) dM_pass_173 rfl rfl ?_
                  refine ax_iload (i := 4) dM_pass_174 rfl ?_
                  refine ax_iload_n (i := 3) dM_pass_176 rfl rfl ?_
                  replace hf := bd1_s hf
                  obtain ⟨x27, e_x27, hf⟩ := hf
                  obtain ⟨k_e_x27, e_x27⟩ := cv_s e_x27
                  refine ax_callV (As := [.int z4, .int y3]) (rest := [va_rf r26]) (c_M_did e_x27) ml_1541 cm_M_did rfl k_e_x27 (Nat.le_trans (Nat.le_of_ble_eq_true rfl) hR1) (Nat.le_trans (Nat.le_of_ble_eq_true rfl) hR2) rfl rfl (by simp only [List.map_cons, List.map_nil, List.sum_cons, List.sum_nil, cat_rf]; exact Nat.le_of_ble_eq_true rfl) dM_pass_177 ?_
                  refine ax_iconst (1 : Int32) dM_pass_180 k32_1 ?_
                  replace hf := bd1_s hf
                  obtain ⟨a28, e_d, hf⟩ := hf
                  subst e_d
                  replace hf := bd1_s hf
                  obtain ⟨h29, e_h29, hf⟩ := hf
                  refine ax_zast dM_pass_181 e_h29 ?_
                  refine ax_iinc (i := 4) (z4 + (1 : Int32)) [some (va_rf (some y0)), none, some (.int y2), some (.int y3), some (.int (z4 + (1 : Int32))), some (.int x17), none] dM_pass_182 rfl (iic k32_1) (Or.inr (c1i rfl)) rfl ?_
                  refine ax_goto 42 dM_pass_185 (by decide) ?_
                  refine ax_mask [true, true, true, true, true, false, true] rfl [some (va_rf (some y0)), none, some (.int y2), some (.int y3), some (.int (z4 + (1 : Int32))), none, none] rfl ?_
                  exact ih (z4 + (1 : Int32)) h29 hf
            replace hf := hT
            clear hT
            replace hf := ite_c hf
            rcases hf with ⟨hc, hf⟩ | ⟨hc, hf⟩
            · refine ax_if_neF 153 dM_pass_145 (by decide) hc ?_
              refine ax_iload (i := 6) dM_pass_148 rfl ?_
              replace hf := ite_c hf
              rcases hf with ⟨hc, hf⟩ | ⟨hc, hf⟩
              · refine ax_if_eqT 157 dM_pass_150 (by decide) hc ?_
                refine ax_iconst (0 : Int32) dM_pass_157 k32_0 ?_
                refine ax_mask [true, true, true, true, true, true, false] rfl [some (va_rf (some y0)), none, some (.int y2), some (.int y3), some (.int z4), some (.int x17), none] rfl ?_
                cases hf
                exact K
              · refine ax_if_eqF 157 dM_pass_150 (by decide) hc ?_
                refine ax_iconst (1 : Int32) dM_pass_153 k32_1 ?_
                refine ax_goto 158 dM_pass_154 (by decide) ?_
                refine ax_mask [true, true, true, true, true, true, false] rfl [some (va_rf (some y0)), none, some (.int y2), some (.int y3), some (.int z4), some (.int x17), none] rfl ?_
                cases hf
                exact K
            · refine ax_if_neT 153 dM_pass_145 (by decide) hc ?_
              refine ax_iconst (1 : Int32) dM_pass_153 k32_1 ?_
              refine ax_goto 158 dM_pass_154 (by decide) ?_
              refine ax_mask [true, true, true, true, true, true, false] rfl [some (va_rf (some y0)), none, some (.int y2), some (.int y3), some (.int z4), some (.int x17), none] rfl ?_
              cases hf
              exact K
          replace hf := hT
          clear hT
          replace hf := ite_c hf
          rcases hf with ⟨hc, hf⟩ | ⟨hc, hf⟩
          · refine ax_icmp_eqT 125 dM_pass_88 (by decide) hc ?_
            refine ax_iconst (1 : Int32) dM_pass_125 k32_1 ?_
            refine ax_goto 130 dM_pass_126 (by decide) ?_
            cases hf
            exact K
          · refine ax_icmp_eqF 125 dM_pass_88 (by decide) hc ?_
            refine ax_iload_n (i := 2) dM_pass_91 rfl rfl ?_
            refine ax_iconst (2 : Int32) dM_pass_92 k32_2 ?_
            replace hf := ite_c hf
            rcases hf with ⟨hc, hf⟩ | ⟨hc, hf⟩
            · refine ax_icmp_eqT 125 dM_pass_93 (by decide) hc ?_
              refine ax_iconst (1 : Int32) dM_pass_125 k32_1 ?_
              refine ax_goto 130 dM_pass_126 (by decide) ?_
              cases hf
              exact K
            · refine ax_icmp_eqF 125 dM_pass_93 (by decide) hc ?_
              refine ax_iload_n (i := 2) dM_pass_96 rfl rfl ?_
              refine ax_iconst (3 : Int32) dM_pass_97 k32_3 ?_
              replace hf := ite_c hf
              rcases hf with ⟨hc, hf⟩ | ⟨hc, hf⟩
              · refine ax_icmp_neF 111 dM_pass_98 (by decide) hc ?_
                refine ax_iload (i := 4) dM_pass_101 rfl ?_
                refine ax_iload_n (i := 3) dM_pass_103 rfl rfl ?_
                refine ax_ishr dM_pass_104 ?_
                refine ax_iconst (1 : Int32) dM_pass_105 k32_1 ?_
                refine ax_iand dM_pass_106 ?_
                refine ax_iconst (1 : Int32) dM_pass_107 k32_1 ?_
                replace hf := ite_c hf
                rcases hf with ⟨hc, hf⟩ | ⟨hc, hf⟩
                · refine ax_icmp_eqT 125 dM_pass_108 (by decide) hc ?_
                  refine ax_iconst (1 : Int32) dM_pass_125 k32_1 ?_
                  refine ax_goto 130 dM_pass_126 (by decide) ?_
                  cases hf
                  exact K
                · refine ax_icmp_eqF 125 dM_pass_108 (by decide) hc ?_
                  refine ax_iload_n (i := 2) dM_pass_111 rfl rfl ?_
                  refine ax_iconst (4 : Int32) dM_pass_112 k32_4 ?_
                  replace hf := ite_c hf
                  rcases hf with ⟨hc, hf⟩ | ⟨hc, hf⟩
                  · refine ax_icmp_neF 129 dM_pass_113 (by decide) hc ?_
                    refine ax_iload (i := 4) dM_pass_116 rfl ?_
                    refine ax_iload_n (i := 3) dM_pass_118 rfl rfl ?_
                    refine ax_ishr dM_pass_119 ?_
                    refine ax_iconst (1 : Int32) dM_pass_120 k32_1 ?_
                    refine ax_iand dM_pass_121 ?_
                    replace hf := ite_c hf
                    rcases hf with ⟨hc, hf⟩ | ⟨hc, hf⟩
                    · refine ax_if_neF 129 dM_pass_122 (by decide) hc ?_
                      refine ax_iconst (1 : Int32) dM_pass_125 k32_1 ?_
                      refine ax_goto 130 dM_pass_126 (by decide) ?_
                      cases hf
                      exact K
                    · refine ax_if_neT 129 dM_pass_122 (by decide) hc ?_
                      refine ax_iconst (0 : Int32) dM_pass_129 k32_0 ?_
                      cases hf
                      exact K
                  · refine ax_icmp_neT 129 dM_pass_113 (by decide) hc ?_
                    refine ax_iconst (0 : Int32) dM_pass_129 k32_0 ?_
                    cases hf
                    exact K
              · refine ax_icmp_neT 111 dM_pass_98 (by decide) hc ?_
                refine ax_iload_n (i := 2) dM_pass_111 rfl rfl ?_
                refine ax_iconst (4 : Int32) dM_pass_112 k32_4 ?_
                replace hf := ite_c hf
                rcases hf with ⟨hc, hf⟩ | ⟨hc, hf⟩
                · refine ax_icmp_neF 129 dM_pass_113 (by decide) hc ?_
                  refine ax_iload (i := 4) dM_pass_116 rfl ?_
                  refine ax_iload_n (i := 3) dM_pass_118 rfl rfl ?_
                  refine ax_ishr dM_pass_119 ?_
                  refine ax_iconst (1 : Int32) dM_pass_120 k32_1 ?_
                  refine ax_iand dM_pass_121 ?_
                  replace hf := ite_c hf
                  rcases hf with ⟨hc, hf⟩ | ⟨hc, hf⟩
                  · refine ax_if_neF 129 dM_pass_122 (by decide) hc ?_
                    refine ax_iconst (1 : Int32) dM_pass_125 k32_1 ?_
                    refine ax_goto 130 dM_pass_126 (by decide) ?_
                    cases hf
                    exact K
                  · refine ax_if_neT 129 dM_pass_122 (by decide) hc ?_
                    refine ax_iconst (0 : Int32) dM_pass_129 k32_0 ?_
                    cases hf
                    exact K
                · refine ax_icmp_neT 129 dM_pass_113 (by decide) hc ?_
                  refine ax_iconst (0 : Int32) dM_pass_129 k32_0 ?_
                  cases hf
                  exact K
        replace hf := hT
        clear hT
        replace hf := ite_c hf
        rcases hf with ⟨hc, hf⟩ | ⟨hc, hf⟩
        · refine ax_icmp_geF 83 dM_pass_62 (by decide) hc ?_
          refine ax_aload_n (i := 0) (some y0) dM_pass_65 rfl rfl ?_
          replace hf := bd1_s hf
          obtain ⟨r14, e_r14, hf⟩ := hf
          refine ax_getR fl_1023 rfl dM_pass_66 e_r14 ?_
          refine ax_iload_n (i := 3) dM_pass_69 rfl rfl ?_
          replace hf := bd1_s hf
          obtain ⟨a15, e_d, hf⟩ := hf
          subst e_d
          replace hf := bd1_s hf
          obtain ⟨x16, e_x16, hf⟩ := hf
          refine ax_iald dM_pass_70 e_x16 ?_
          refine ax_iload (i := 4) dM_pass_71 rfl ?_
          refine ax_iconst (-1 : Int32) dM_pass_73 k32_m1 ?_
          refine ax_ixor dM_pass_74 ?_
          refine ax_iand dM_pass_75 ?_
          replace hf := ite_c hf
          rcases hf with ⟨hc, hf⟩ | ⟨hc, hf⟩
          · refine ax_if_neF 83 dM_pass_76 (by decide) hc ?_
            refine ax_iconst (1 : Int32) dM_pass_79 k32_1 ?_
            refine ax_goto 84 dM_pass_80 (by decide) ?_
            cases hf
            exact K
          · refine ax_if_neT 83 dM_pass_76 (by decide) hc ?_
            refine ax_iconst (0 : Int32) dM_pass_83 k32_0 ?_
            cases hf
            exact K
        · refine ax_icmp_geT 83 dM_pass_62 (by decide) hc ?_
          refine ax_iconst (0 : Int32) dM_pass_83 k32_0 ?_
          cases hf
          exact K
    · refine ax_icmp_geT 188 dM_pass_47 (by decide) hc ?_
      refine ax_mask [true, true, false, false, false, true, true] rfl [some (va_rf (some y0)), none, none, none, none, none, none] rfl ?_
      exact hk h hf
theorem w_M_pass_L191 {l : Launch} {E : EN} {R : Room} {B : (Nat × Nat) × (Nat × Nat)} {Qf : QF} {hF : AH} (hR1 : 2 ≤ R.frames) (hR2 : 128 ≤ R.locals) (Hr : ∀ (pc : Nat) (L : List (Option Value)), decode mi_M_pass.2.1 pc = .ok (.return_, 1) → AW l E mi_M_pass R B Qf pc L [] hF) {y0 : Nat} : ∀ (n : Nat) (z4 : Int32) (h : AH), f_M_pass_L191 y0 n z4 h = some hF → AW l E mi_M_pass R B Qf 191 [some (va_rf (some y0)), none, none, none, some (.int z4), none, none] [] h := by
  intro n
  induction n with
  | zero => intro z4 h hf; cases hf
  | succ n ih =>
    intro z4 h hf
    rw [f_M_pass_L191] at hf
    refine ax_iload (i := 4) dM_pass_191 rfl ?_
    refine ax_sipush (4096 : Int32) dM_pass_193 k16_4096 ?_
    replace hf := ite_c hf
    rcases hf with ⟨hc, hf⟩ | ⟨hc, hf⟩
    · refine ax_icmp_geF 219 dM_pass_196 (by decide) hc ?_
      refine ax_aload_n (i := 0) (some y0) dM_pass_199 rfl rfl ?_
      replace hf := bd1_s hf
      obtain ⟨r31, e_r31, hf⟩ := hf
      refine ax_getR fl_1068 rfl dM_pass_200 e_r31 ?_
      refine ax_iload (i := 4) dM_pass_203 rfl ?_
      refine ax_aload_n (i := 0) (some y0) dM_pass_205 rfl rfl ?_
      replace hf := bd1_s hf
      obtain ⟨r32, e_r32, hf⟩ := hf
      refine ax_getR fl_1069 rfl dM_pass_206 e_r32 ?_
      refine ax_iload (i := 4) dM_pass_209 rfl ?_
      replace hf := bd1_s hf
      obtain ⟨a33, e_d, hf⟩ := hf
      subst e_d
      replace hf := bd1_s hf
      obtain ⟨x34, e_x34, hf⟩ := hf
      refine ax_zald dM_pass_211 e_x34 ?_
      replace hf := bd1_s hf
      obtain ⟨a35, e_d, hf⟩ := hf
      subst e_d
      replace hf := bd1_s hf
      obtain ⟨h36, e_h36, hf⟩ := hf
      refine ax_zast dM_pass_212 e_h36 ?_
      refine ax_iinc (i := 4) (z4 + (1 : Int32)) [some (va_rf (some y0)), none, none, none, some (.int (z4 + (1 : Int32))), none, none] dM_pass_213 rfl (iic k32_1) (Or.inr (c1n rfl)) rfl ?_
      refine ax_goto 191 dM_pass_216 (by decide) ?_
      exact ih (z4 + (1 : Int32)) h36 hf
    · refine ax_icmp_geT 219 dM_pass_196 (by decide) hc ?_
      cases hf
      exact Hr _ _ dM_pass_219
theorem v_M_pass {l : Launch} {E : EN} {R : Room} {B : (Nat × Nat) × (Nat × Nat)} {Qf : QF} {h0 : AH} {o : Nat} {p1 : Int32} {hF : AH} (hR1 : 2 ≤ R.frames) (hR2 : 128 ≤ R.locals) (Hr : ∀ (pc : Nat) (L : List (Option Value)), decode mi_M_pass.2.1 pc = .ok (.return_, 1) → AW l E mi_M_pass R B Qf pc L [] hF) (hf : f_M_pass h0 o p1 = some hF) : AW l E mi_M_pass R B Qf 0 [some (va_rf (some o)), some (.int p1), none, none, none, none, none] [] h0 := by
  unfold f_M_pass at hf
  refine ax_aload_n (i := 0) (some o) dM_pass_0 rfl rfl ?_
  replace hf := bd1_s hf
  obtain ⟨r1, e_r1, hf⟩ := hf
  refine ax_getR fl_1032 rfl dM_pass_1 e_r1 ?_
  refine ax_iload_n (i := 1) dM_pass_4 rfl rfl ?_
  replace hf := bd1_s hf
  obtain ⟨a2, e_d, hf⟩ := hf
  subst e_d
  replace hf := bd1_s hf
  obtain ⟨x3, e_x3, hf⟩ := hf
  refine ax_iald dM_pass_5 e_x3 ?_
  refine ax_istore_n (i := 2) [some (va_rf (some o)), some (.int p1), some (.int x3), none, none, none, none] dM_pass_6 rfl (Nat.le_of_ble_eq_true rfl) (Or.inr (c1i rfl)) rfl ?_
  refine ax_aload_n (i := 0) (some o) dM_pass_7 rfl rfl ?_
  replace hf := bd1_s hf
  obtain ⟨r4, e_r4, hf⟩ := hf
  refine ax_getR fl_1033 rfl dM_pass_8 e_r4 ?_
  refine ax_iload_n (i := 1) dM_pass_11 rfl rfl ?_
  replace hf := bd1_s hf
  obtain ⟨a5, e_d, hf⟩ := hf
  subst e_d
  replace hf := bd1_s hf
  obtain ⟨x6, e_x6, hf⟩ := hf
  refine ax_iald dM_pass_12 e_x6 ?_
  refine ax_istore_n (i := 3) [some (va_rf (some o)), some (.int p1), some (.int x3), some (.int x6), none, none, none] dM_pass_13 rfl (Nat.le_of_ble_eq_true rfl) (Or.inr (c1i rfl)) rfl ?_
  refine ax_iconst (0 : Int32) dM_pass_14 k32_0 ?_
  refine ax_istore (i := 4) [some (va_rf (some o)), some (.int p1), some (.int x3), some (.int x6), some (.int (0 : Int32)), none, none] dM_pass_15 (Nat.le_of_ble_eq_true rfl) (Or.inr (c1i rfl)) rfl ?_
  refine ax_mask [true, false, true, true, true, true, true] rfl [some (va_rf (some o)), none, some (.int x3), some (.int x6), some (.int (0 : Int32)), none, none] rfl ?_
  refine w_M_pass_L17 hR1 hR2 (fun h10 hf => ?_) FU (0 : Int32) h0 hf
  refine ax_iconst (0 : Int32) dM_pass_39 k32_0 ?_
  refine ax_istore (i := 4) [some (va_rf (some o)), none, some (.int x3), some (.int x6), some (.int (0 : Int32)), none, none] dM_pass_40 (Nat.le_of_ble_eq_true rfl) (Or.inr (c1i rfl)) rfl ?_
  refine w_M_pass_L42 hR1 hR2 (fun h30 hf => ?_) FU (0 : Int32) h10 hf
  refine ax_iconst (0 : Int32) dM_pass_188 k32_0 ?_
  refine ax_istore (i := 4) [some (va_rf (some o)), none, none, none, some (.int (0 : Int32)), none, none] dM_pass_189 (Nat.le_of_ble_eq_true rfl) (Or.inr (c1n rfl)) rfl ?_
  refine w_M_pass_L191 hR1 hR2 Hr FU (0 : Int32) h30 hf
theorem c_M_pass {l : Launch} {E : EN} {h0 : AH} {o : Nat} {p1 : Int32} {hF : AH} (hf : f_M_pass h0 o p1 = some hF) : AM l E 2 mi_M_pass [va_rf (some o), .int p1] h0 none hF :=
  am_of2 [(va_rf (some o), false), (.int p1, false)] 5 ⟨cat_rf _, rfl, trivial⟩ rfl rfl (v_M_pass (Nat.le_refl _) (Nat.le_refl _) (fun pc L hd => ax_vret rfl hd rfl) hf)
theorem w_M_passAll_L2 {l : Launch} {E : EN} {R : Room} {B : (Nat × Nat) × (Nat × Nat)} {Qf : QF} {ρ : Type} {res : ρ} (hR1 : 3 ≤ R.frames) (hR2 : 192 ≤ R.locals) {y0 : Nat} {y1 : Int32} {k : AH → Option (ρ)} (hk : ∀ (h : AH), k h = some res → AW l E mi_M_passAll R B Qf 34 [some (va_rf (some y0)), some (.int y1), none, none] [] h) : ∀ (n : Nat) (z2 : Int32) (h : AH), f_M_passAll_L2 y0 y1 k n z2 h = some res → AW l E mi_M_passAll R B Qf 2 [some (va_rf (some y0)), some (.int y1), some (.int z2), none] [] h := by
  intro n
  induction n with
  | zero => intro z2 h hf; cases hf
  | succ n ih =>
    intro z2 h hf
    rw [f_M_passAll_L2] at hf
    refine ax_iload_n (i := 2) dM_passAll_2 rfl rfl ?_
    refine ax_sipush (4096 : Int32) dM_passAll_3 k16_4096 ?_
    replace hf := ite_c hf
    rcases hf with ⟨hc, hf⟩ | ⟨hc, hf⟩
    · refine ax_icmp_geF 34 dM_passAll_6 (by decide) hc ?_
      refine ax_aload_n (i := 0) (some y0) dM_passAll_9 rfl rfl ?_
      replace hf := bd1_s hf
      obtain ⟨r1, e_r1, hf⟩ := hf
      refine ax_getR fl_1068 rfl dM_passAll_10 e_r1 ?_
      refine ax_iload_n (i := 2) dM_passAll_13 rfl rfl ?_
      refine ax_iload_n (i := 2) dM_passAll_14 rfl rfl ?_
      refine ax_aload_n (i := 0) (some y0) dM_passAll_15 rfl rfl ?_
      replace hf := bd1_s hf
      obtain ⟨x2, e_x2, hf⟩ := hf
      refine ax_getI fl_1030 rfl dM_passAll_16 e_x2 ?_
      replace hf := bd1_s hf
      obtain ⟨x3, hT, hf⟩ := hf
      have K : AW l E mi_M_passAll R B Qf 27 [some (va_rf (some y0)), some (.int y1), some (.int z2), none] [.int x3, .int z2, va_rf r1] h := by
        clear hT
        replace hf := bd1_s hf
        obtain ⟨a4, e_d, hf⟩ := hf
        subst e_d
        replace hf := bd1_s hf
        obtain ⟨h5, e_h5, hf⟩ := hf
        refine ax_zast dM_passAll_27 e_h5 ?_
        refine ax_iinc (i := 2) (z2 + (1 : Int32)) [some (va_rf (some y0)), some (.int y1), some (.int (z2 + (1 : Int32))), none] dM_passAll_28 rfl (iic k32_1) (Or.inr (c1i rfl)) rfl ?_
        refine ax_goto 2 dM_passAll_31 (by decide) ?_
        exact ih (z2 + (1 : Int32)) h5 hf
      replace hf := hT
      clear hT
      replace hf := ite_c hf
      rcases hf with ⟨hc, hf⟩ | ⟨hc, hf⟩
      · refine ax_icmp_neF 26 dM_passAll_19 (by decide) hc ?_
        refine ax_iconst (1 : Int32) dM_passAll_22 k32_1 ?_
        refine ax_goto 27 dM_passAll_23 (by decide) ?_
        cases hf
        exact K
      · refine ax_icmp_neT 26 dM_passAll_19 (by decide) hc ?_
        refine ax_iconst (0 : Int32) dM_passAll_26 k32_0 ?_
        cases hf
        exact K
    · refine ax_icmp_geT 34 dM_passAll_6 (by decide) hc ?_
      refine ax_mask [true, true, false, true] rfl [some (va_rf (some y0)), some (.int y1), none, none] rfl ?_
      exact hk h hf
theorem w_M_passAll_L36 {l : Launch} {E : EN} {R : Room} {B : (Nat × Nat) × (Nat × Nat)} {Qf : QF} {ρ : Type} {res : ρ} (hR1 : 3 ≤ R.frames) (hR2 : 192 ≤ R.locals) {y0 : Nat} {y1 : Int32} {k : AH → Option (ρ)} (hk : ∀ (h : AH), k h = some res → AW l E mi_M_passAll R B Qf 52 [some (va_rf (some y0)), none, none, none] [] h) : ∀ (n : Nat) (z2 : Int32) (h : AH), f_M_passAll_L36 y0 y1 k n z2 h = some res → AW l E mi_M_passAll R B Qf 36 [some (va_rf (some y0)), some (.int y1), some (.int z2), none] [] h := by
  intro n
  induction n with
  | zero => intro z2 h hf; cases hf
  | succ n ih =>
    intro z2 h hf
    rw [f_M_passAll_L36] at hf
    refine ax_iload_n (i := 2) dM_passAll_36 rfl rfl ?_
    refine ax_iload_n (i := 1) dM_passAll_37 rfl rfl ?_
    replace hf := ite_c hf
    rcases hf with ⟨hc, hf⟩ | ⟨hc, hf⟩
    · refine ax_icmp_geF 52 dM_passAll_38 (by decide) hc ?_
      refine ax_aload_n (i := 0) (some y0) dM_passAll_41 rfl rfl ?_
      refine ax_iload_n (i := 2) dM_passAll_42 rfl rfl ?_
      replace hf := bd1_s hf
      obtain ⟨h7, e_h7, hf⟩ := hf
      obtain ⟨k_e_h7, e_h7⟩ := cv_s e_h7
      refine ax_callV (As := [.int z2]) (rest := []) (c_M_pass e_h7) ml_1537 cm_M_pass rfl k_e_h7 (Nat.le_trans (Nat.le_of_ble_eq_true rfl) hR1) (Nat.le_trans (Nat.le_of_ble_eq_true rfl) hR2) rfl rfl (Nat.le_of_ble_eq_true rfl) dM_passAll_43 ?_
      refine ax_iinc (i := 2) (z2 + (1 : Int32)) [some (va_rf (some y0)), some (.int y1), some (.int (z2 + (1 : Int32))), none] dM_passAll_46 rfl (iic k32_1) (Or.inr (c1i rfl)) rfl ?_
      refine ax_goto 36 dM_passAll_49 (by decide) ?_
      exact ih (z2 + (1 : Int32)) h7 hf
    · refine ax_icmp_geT 52 dM_passAll_38 (by decide) hc ?_
      refine ax_mask [true, false, false, true] rfl [some (va_rf (some y0)), none, none, none] rfl ?_
      exact hk h hf
theorem w_M_passAll_L56 {l : Launch} {E : EN} {R : Room} {B : (Nat × Nat) × (Nat × Nat)} {Qf : QF} {h0 : AH} {r : Int32} {hF : AH} (hR1 : 3 ≤ R.frames) (hR2 : 192 ≤ R.locals) (Hr : ∀ (pc : Nat) (L : List (Option Value)), decode mi_M_passAll.2.1 pc = .ok (.ireturn, 1) → AW l E mi_M_passAll R B Qf pc L [.int r] hF) {y0 : Nat} : ∀ (n : Nat) (z2 : Int32) (z3 : Int32), f_M_passAll_L56 h0 y0 n z2 z3 = some (r, hF) → AW l E mi_M_passAll R B Qf 56 [some (va_rf (some y0)), none, some (.int z2), some (.int z3)] [] h0 := by
  intro n
  induction n with
  | zero => intro z2 z3 hf; cases hf
  | succ n ih =>
    intro z2 z3 hf
    rw [f_M_passAll_L56] at hf
    refine ax_iload_n (i := 3) dM_passAll_56 rfl rfl ?_
    refine ax_sipush (4096 : Int32) dM_passAll_57 k16_4096 ?_
    replace hf := ite_c hf
    rcases hf with ⟨hc, hf⟩ | ⟨hc, hf⟩
    · refine ax_icmp_geF 86 dM_passAll_60 (by decide) hc ?_
      refine ax_iload_n (i := 2) dM_passAll_63 rfl rfl ?_
      refine ax_aload_n (i := 0) (some y0) dM_passAll_64 rfl rfl ?_
      replace hf := bd1_s hf
      obtain ⟨r9, e_r9, hf⟩ := hf
      refine ax_getR fl_1068 rfl dM_passAll_65 e_r9 ?_
      refine ax_iload_n (i := 3) dM_passAll_68 rfl rfl ?_
      replace hf := bd1_s hf
      obtain ⟨a10, e_d, hf⟩ := hf
      subst e_d
      replace hf := bd1_s hf
      obtain ⟨x11, e_x11, hf⟩ := hf
      refine ax_zald dM_passAll_69 e_x11 ?_
      replace hf := bd1_s hf
      obtain ⟨x12, hT, hf⟩ := hf
      have K : AW l E mi_M_passAll R B Qf 78 [some (va_rf (some y0)), none, none, some (.int z3)] [.int x12, .int z2] h0 := by
        clear hT
        refine ax_iadd dM_passAll_78 ?_
        replace hf := bd1_s hf
        obtain ⟨x13, e_x13, hf⟩ := hf
        refine ax_nmI (Option.some.inj e_x13) ?_
        refine ax_istore_n (i := 2) [some (va_rf (some y0)), none, some (.int x13), some (.int z3)] dM_passAll_79 rfl (Nat.le_of_ble_eq_true rfl) (Or.inr (c1n rfl)) rfl ?_
        refine ax_iinc (i := 3) (z3 + (1 : Int32)) [some (va_rf (some y0)), none, some (.int x13), some (.int (z3 + (1 : Int32)))] dM_passAll_80 rfl (iic k32_1) (Or.inr (c1i rfl)) rfl ?_
        refine ax_goto 56 dM_passAll_83 (by decide) ?_
        exact ih x13 (z3 + (1 : Int32)) hf
      replace hf := hT
      clear hT
      replace hf := ite_c hf
      rcases hf with ⟨hc, hf⟩ | ⟨hc, hf⟩
      · refine ax_if_eqT 77 dM_passAll_70 (by decide) hc ?_
        refine ax_iconst (0 : Int32) dM_passAll_77 k32_0 ?_
        refine ax_mask [true, true, false, true] rfl [some (va_rf (some y0)), none, none, some (.int z3)] rfl ?_
        cases hf
        exact K
      · refine ax_if_eqF 77 dM_passAll_70 (by decide) hc ?_
        refine ax_iconst (1 : Int32) dM_passAll_73 k32_1 ?_
        refine ax_goto 78 dM_passAll_74 (by decide) ?_
        refine ax_mask [true, true, false, true] rfl [some (va_rf (some y0)), none, none, some (.int z3)] rfl ?_
        cases hf
        exact K
    · refine ax_icmp_geT 86 dM_passAll_60 (by decide) hc ?_
      refine ax_iload_n (i := 2) dM_passAll_86 rfl rfl ?_
      cases hf
      exact Hr _ _ dM_passAll_87
theorem v_M_passAll {l : Launch} {E : EN} {R : Room} {B : (Nat × Nat) × (Nat × Nat)} {Qf : QF} {h0 : AH} {o : Nat} {p1 : Int32} {r : Int32} {hF : AH} (hR1 : 3 ≤ R.frames) (hR2 : 192 ≤ R.locals) (Hr : ∀ (pc : Nat) (L : List (Option Value)), decode mi_M_passAll.2.1 pc = .ok (.ireturn, 1) → AW l E mi_M_passAll R B Qf pc L [.int r] hF) (hf : f_M_passAll h0 o p1 = some (r, hF)) : AW l E mi_M_passAll R B Qf 0 [some (va_rf (some o)), some (.int p1), none, none] [] h0 := by
  unfold f_M_passAll at hf
  refine ax_iconst (0 : Int32) dM_passAll_0 k32_0 ?_
  refine ax_istore_n (i := 2) [some (va_rf (some o)), some (.int p1), some (.int (0 : Int32)), none] dM_passAll_1 rfl (Nat.le_of_ble_eq_true rfl) (Or.inr (c1i rfl)) rfl ?_
  refine w_M_passAll_L2 hR1 hR2 (fun h6 hf => ?_) FU (0 : Int32) h0 hf
  refine ax_iconst (0 : Int32) dM_passAll_34 k32_0 ?_
  refine ax_istore_n (i := 2) [some (va_rf (some o)), some (.int p1), some (.int (0 : Int32)), none] dM_passAll_35 rfl (Nat.le_of_ble_eq_true rfl) (Or.inr (c1i rfl)) rfl ?_
  refine w_M_passAll_L36 hR1 hR2 (fun h8 hf => ?_) FU (0 : Int32) h6 hf
  refine ax_iconst (0 : Int32) dM_passAll_52 k32_0 ?_
  refine ax_istore_n (i := 2) [some (va_rf (some o)), none, some (.int (0 : Int32)), none] dM_passAll_53 rfl (Nat.le_of_ble_eq_true rfl) (Or.inr (c1n rfl)) rfl ?_
  refine ax_iconst (0 : Int32) dM_passAll_54 k32_0 ?_
  refine ax_istore_n (i := 3) [some (va_rf (some o)), none, some (.int (0 : Int32)), some (.int (0 : Int32))] dM_passAll_55 rfl (Nat.le_of_ble_eq_true rfl) (Or.inr (c1i rfl)) rfl ?_
  refine w_M_passAll_L56 hR1 hR2 Hr FU (0 : Int32) (0 : Int32) hf
theorem c_M_passAll {l : Launch} {E : EN} {h0 : AH} {o : Nat} {p1 : Int32} {r : Int32} {hF : AH} (hf : f_M_passAll h0 o p1 = some (r, hF)) : AM l E 3 mi_M_passAll [va_rf (some o), .int p1] h0 (some (.int r)) hF :=
  am_of2 [(va_rf (some o), false), (.int p1, false)] 2 ⟨cat_rf _, rfl, trivial⟩ rfl rfl (v_M_passAll (Nat.le_refl _) (Nat.le_refl _) (fun pc L hd => ax_iret rfl hd rfl) hf)
theorem v_M_worlds {l : Launch} {E : EN} {R : Room} {B : (Nat × Nat) × (Nat × Nat)} {Qf : QF} {h0 : AH} {o : Nat} {p1 : Int32} {r : Int32} {hF : AH} (hR1 : 4 ≤ R.frames) (hR2 : 256 ≤ R.locals) (Hr : ∀ (pc : Nat) (L : List (Option Value)), decode mi_M_worlds.2.1 pc = .ok (.ireturn, 1) → AW l E mi_M_worlds R B Qf pc L [.int r] hF) (hf : f_M_worlds h0 o p1 = some (r, hF)) : AW l E mi_M_worlds R B Qf 0 [some (va_rf (some o)), some (.int p1)] [] h0 := by
  unfold f_M_worlds at hf
  refine ax_iload_n (i := 1) dM_worlds_0 rfl rfl ?_
  refine ax_iconst (0 : Int32) dM_worlds_1 k32_0 ?_
  refine ax_aload_n (i := 0) (some o) dM_worlds_2 rfl rfl ?_
  replace hf := bd1_s hf
  obtain ⟨x1, e_x1, hf⟩ := hf
  refine ax_getI fl_1031 rfl dM_worlds_3 e_x1 ?_
  replace hf := bd1_s hf
  obtain ⟨x2, e_x2, hf⟩ := hf
  refine ax_callS (As := [.int p1, .int (0 : Int32), .int x1]) (rest := []) (c_M_in e_x2) ml_1215 cm_M_in (Nat.le_trans (Nat.le_of_ble_eq_true rfl) hR1) (Nat.le_trans (Nat.le_of_ble_eq_true rfl) hR2) rfl rfl (Nat.le_of_ble_eq_true rfl) dM_worlds_6 ?_
  replace hf := ite_c hf
  rcases hf with ⟨hc, hf⟩ | ⟨hc, hf⟩
  · refine ax_if_eqT 20 dM_worlds_9 (by decide) hc ?_
    refine ax_bipush (-101 : Int32) dM_worlds_20 k8_m101 ?_
    cases hf
    exact Hr _ _ dM_worlds_22
  · refine ax_if_eqF 20 dM_worlds_9 (by decide) hc ?_
    refine ax_aload_n (i := 0) (some o) dM_worlds_12 rfl rfl ?_
    refine ax_iload_n (i := 1) dM_worlds_13 rfl rfl ?_
    replace hf := bd2_s hf
    obtain ⟨x3, h4, e_x3, hf⟩ := hf
    obtain ⟨k_e_x3, e_x3⟩ := cv_s e_x3
    refine ax_callV (As := [.int p1]) (rest := []) (c_M_passAll e_x3) ml_1533 cm_M_passAll rfl k_e_x3 (Nat.le_trans (Nat.le_of_ble_eq_true rfl) hR1) (Nat.le_trans (Nat.le_of_ble_eq_true rfl) hR2) rfl rfl (Nat.le_of_ble_eq_true rfl) dM_worlds_14 ?_
    refine ax_goto 22 dM_worlds_17 (by decide) ?_
    cases hf
    exact Hr _ _ dM_worlds_22
theorem c_M_worlds {l : Launch} {E : EN} {h0 : AH} {o : Nat} {p1 : Int32} {r : Int32} {hF : AH} (hf : f_M_worlds h0 o p1 = some (r, hF)) : AM l E 4 mi_M_worlds [va_rf (some o), .int p1] h0 (some (.int r)) hF :=
  am_of2 [(va_rf (some o), false), (.int p1, false)] 0 ⟨cat_rf _, rfl, trivial⟩ rfl rfl (v_M_worlds (Nat.le_refl _) (Nat.le_refl _) (fun pc L hd => ax_iret rfl hd rfl) hf)
theorem w_M_held_L35 {l : Launch} {E : EN} {R : Room} {B : (Nat × Nat) × (Nat × Nat)} {Qf : QF} {h0 : AH} {ρ : Type} {res : ρ} (hR1 : 4 ≤ R.frames) (hR2 : 256 ≤ R.locals) {y0 : Nat} {y1 : Int32} {k : Int32 → Int32 → Option (ρ)} (hk : ∀ (z2 : Int32) (z3 : Int32), k z2 z3 = some res → AW l E mi_M_held R B Qf 89 [none, some (.int y1), some (.int z2), some (.int z3), none] [] h0) : ∀ (n : Nat) (z2 : Int32) (z3 : Int32) (z4 : Int32), f_M_held_L35 h0 y0 y1 k n z2 z3 z4 = some res → AW l E mi_M_held R B Qf 35 [some (va_rf (some y0)), some (.int y1), some (.int z2), some (.int z3), some (.int z4)] [] h0 := by
  intro n
  induction n with
  | zero => intro z2 z3 z4 hf; cases hf
  | succ n ih =>
    intro z2 z3 z4 hf
    rw [f_M_held_L35] at hf
    refine ax_iload (i := 4) dM_held_35 rfl ?_
    refine ax_sipush (4096 : Int32) dM_held_37 k16_4096 ?_
    replace hf := ite_c hf
    rcases hf with ⟨hc, hf⟩ | ⟨hc, hf⟩
    · refine ax_icmp_geF 89 dM_held_40 (by decide) hc ?_
      refine ax_iload_n (i := 2) dM_held_43 rfl rfl ?_
      refine ax_aload_n (i := 0) (some y0) dM_held_44 rfl rfl ?_
      replace hf := bd1_s hf
      obtain ⟨r5, e_r5, hf⟩ := hf
      refine ax_getR fl_1068 rfl dM_held_45 e_r5 ?_
      refine ax_iload (i := 4) dM_held_48 rfl ?_
      replace hf := bd1_s hf
      obtain ⟨a6, e_d, hf⟩ := hf
      subst e_d
      replace hf := bd1_s hf
      obtain ⟨x7, e_x7, hf⟩ := hf
      refine ax_zald dM_held_50 e_x7 ?_
      replace hf := bd1_s hf
      obtain ⟨x8, hT, hf⟩ := hf
      have K : AW l E mi_M_held R B Qf 62 [some (va_rf (some y0)), some (.int y1), none, some (.int z3), some (.int z4)] [.int x8, .int z2] h0 := by
        clear hT
        refine ax_iand dM_held_62 ?_
        replace hf := bd1_s hf
        obtain ⟨x9, e_x9, hf⟩ := hf
        refine ax_nmI (Option.some.inj e_x9) ?_
        refine ax_istore_n (i := 2) [some (va_rf (some y0)), some (.int y1), some (.int x9), some (.int z3), some (.int z4)] dM_held_63 rfl (Nat.le_of_ble_eq_true rfl) (Or.inr (c1i rfl)) rfl ?_
        refine ax_iload_n (i := 3) dM_held_64 rfl rfl ?_
        refine ax_aload_n (i := 0) (some y0) dM_held_65 rfl rfl ?_
        replace hf := bd1_s hf
        obtain ⟨r10, e_r10, hf⟩ := hf
        refine ax_getR fl_1068 rfl dM_held_66 e_r10 ?_
        refine ax_iload (i := 4) dM_held_69 rfl ?_
        replace hf := bd1_s hf
        obtain ⟨a11, e_d, hf⟩ := hf
        subst e_d
        replace hf := bd1_s hf
        obtain ⟨x12, e_x12, hf⟩ := hf
        refine ax_zald dM_held_71 e_x12 ?_
        replace hf := bd1_s hf
        obtain ⟨x13, hT, hf⟩ := hf
        have K : AW l E mi_M_held R B Qf 81 [some (va_rf (some y0)), some (.int y1), some (.int x9), none, some (.int z4)] [.int x13, .int z3] h0 := by
          clear hT
          refine ax_ior dM_held_81 ?_
          replace hf := bd1_s hf
          obtain ⟨x14, e_x14, hf⟩ := hf
          refine ax_nmI (Option.some.inj e_x14) ?_
          refine ax_istore_n (i := 3) [some (va_rf (some y0)), some (.int y1), some (.int x9), some (.int x14), some (.int z4)] dM_held_82 rfl (Nat.le_of_ble_eq_true rfl) (Or.inr (c1i rfl)) rfl ?_
          refine ax_iinc (i := 4) (z4 + (1 : Int32)) [some (va_rf (some y0)), some (.int y1), some (.int x9), some (.int x14), some (.int (z4 + (1 : Int32)))] dM_held_83 rfl (iic k32_1) (Or.inr (c1i rfl)) rfl ?_
          refine ax_goto 35 dM_held_86 (by decide) ?_
          exact ih x9 x14 (z4 + (1 : Int32)) hf
        replace hf := hT
        clear hT
        replace hf := ite_c hf
        rcases hf with ⟨hc, hf⟩ | ⟨hc, hf⟩
        · refine ax_if_eqT 80 dM_held_72 (by decide) hc ?_
          refine ax_iconst (0 : Int32) dM_held_80 k32_0 ?_
          refine ax_mask [true, true, true, false, true] rfl [some (va_rf (some y0)), some (.int y1), some (.int x9), none, some (.int z4)] rfl ?_
          cases hf
          exact K
        · refine ax_if_eqF 80 dM_held_72 (by decide) hc ?_
          refine ax_iload (i := 4) dM_held_75 rfl ?_
          refine ax_goto 81 dM_held_77 (by decide) ?_
          refine ax_mask [true, true, true, false, true] rfl [some (va_rf (some y0)), some (.int y1), some (.int x9), none, some (.int z4)] rfl ?_
          cases hf
          exact K
      replace hf := hT
      clear hT
      replace hf := ite_c hf
      rcases hf with ⟨hc, hf⟩ | ⟨hc, hf⟩
      · refine ax_if_eqT 59 dM_held_51 (by decide) hc ?_
        refine ax_sipush (4095 : Int32) dM_held_59 k16_4095 ?_
        refine ax_mask [true, true, false, true, true] rfl [some (va_rf (some y0)), some (.int y1), none, some (.int z3), some (.int z4)] rfl ?_
        cases hf
        exact K
      · refine ax_if_eqF 59 dM_held_51 (by decide) hc ?_
        refine ax_iload (i := 4) dM_held_54 rfl ?_
        refine ax_goto 62 dM_held_56 (by decide) ?_
        refine ax_mask [true, true, false, true, true] rfl [some (va_rf (some y0)), some (.int y1), none, some (.int z3), some (.int z4)] rfl ?_
        cases hf
        exact K
    · refine ax_icmp_geT 89 dM_held_40 (by decide) hc ?_
      refine ax_mask [false, true, true, true, false] rfl [none, some (.int y1), some (.int z2), some (.int z3), none] rfl ?_
      exact hk z2 z3 hf
theorem v_M_held {l : Launch} {E : EN} {R : Room} {B : (Nat × Nat) × (Nat × Nat)} {Qf : QF} {h0 : AH} {o : Nat} {p1 : Int32} {r : Int32} {hF : AH} (hR1 : 4 ≤ R.frames) (hR2 : 256 ≤ R.locals) (Hr : ∀ (pc : Nat) (L : List (Option Value)), decode mi_M_held.2.1 pc = .ok (.ireturn, 1) → AW l E mi_M_held R B Qf pc L [.int r] hF) (hf : f_M_held h0 o p1 = some (r, hF)) : AW l E mi_M_held R B Qf 0 [some (va_rf (some o)), some (.int p1), none, none, none] [] h0 := by
  unfold f_M_held at hf
  refine ax_iload_n (i := 1) dM_held_0 rfl rfl ?_
  refine ax_iconst (0 : Int32) dM_held_1 k32_0 ?_
  refine ax_iconst (1 : Int32) dM_held_2 k32_1 ?_
  replace hf := bd1_s hf
  obtain ⟨x1, e_x1, hf⟩ := hf
  refine ax_callS (As := [.int p1, .int (0 : Int32), .int (1 : Int32)]) (rest := []) (c_M_in e_x1) ml_1215 cm_M_in (Nat.le_trans (Nat.le_of_ble_eq_true rfl) hR1) (Nat.le_trans (Nat.le_of_ble_eq_true rfl) hR2) rfl rfl (Nat.le_of_ble_eq_true rfl) dM_held_3 ?_
  replace hf := ite_c hf
  rcases hf with ⟨hc, hf⟩ | ⟨hc, hf⟩
  · refine ax_if_neF 12 dM_held_6 (by decide) hc ?_
    refine ax_bipush (-102 : Int32) dM_held_9 k8_m102 ?_
    cases hf
    exact Hr _ _ dM_held_11
  · refine ax_if_neT 12 dM_held_6 (by decide) hc ?_
    refine ax_aload_n (i := 0) (some o) dM_held_12 rfl rfl ?_
    refine ax_aload_n (i := 0) (some o) dM_held_13 rfl rfl ?_
    replace hf := bd1_s hf
    obtain ⟨x2, e_x2, hf⟩ := hf
    refine ax_getI fl_1031 rfl dM_held_14 e_x2 ?_
    replace hf := bd2_s hf
    obtain ⟨x3, h4, e_x3, hf⟩ := hf
    obtain ⟨k_e_x3, e_x3⟩ := cv_s e_x3
    refine ax_callV (As := [.int x2]) (rest := []) (c_M_passAll e_x3) ml_1533 cm_M_passAll rfl k_e_x3 (Nat.le_trans (Nat.le_of_ble_eq_true rfl) hR1) (Nat.le_trans (Nat.le_of_ble_eq_true rfl) hR2) rfl rfl (Nat.le_of_ble_eq_true rfl) dM_held_17 ?_
    replace hf := ite_c hf
    rcases hf with ⟨hc, hf⟩ | ⟨hc, hf⟩
    · refine ax_if_neF 26 dM_held_20 (by decide) hc ?_
      refine ax_bipush (-103 : Int32) dM_held_23 k8_m103 ?_
      cases hf
      exact Hr _ _ dM_held_25
    · refine ax_if_neT 26 dM_held_20 (by decide) hc ?_
      refine ax_sipush (4095 : Int32) dM_held_26 k16_4095 ?_
      refine ax_istore_n (i := 2) [some (va_rf (some o)), some (.int p1), some (.int (4095 : Int32)), none, none] dM_held_29 rfl (Nat.le_of_ble_eq_true rfl) (Or.inr (c1i rfl)) rfl ?_
      refine ax_iconst (0 : Int32) dM_held_30 k32_0 ?_
      refine ax_istore_n (i := 3) [some (va_rf (some o)), some (.int p1), some (.int (4095 : Int32)), some (.int (0 : Int32)), none] dM_held_31 rfl (Nat.le_of_ble_eq_true rfl) (Or.inr (c1i rfl)) rfl ?_
      refine ax_iconst (0 : Int32) dM_held_32 k32_0 ?_
      refine ax_istore (i := 4) [some (va_rf (some o)), some (.int p1), some (.int (4095 : Int32)), some (.int (0 : Int32)), some (.int (0 : Int32))] dM_held_33 (Nat.le_of_ble_eq_true rfl) (Or.inr (c1i rfl)) rfl ?_
      refine w_M_held_L35 hR1 hR2 (fun x15 x16 hf => ?_) FU (4095 : Int32) (0 : Int32) (0 : Int32) hf
      refine ax_iload_n (i := 1) dM_held_89 rfl rfl ?_
      replace hf := ite_c hf
      rcases hf with ⟨hc, hf⟩ | ⟨hc, hf⟩
      · refine ax_if_neF 97 dM_held_90 (by decide) hc ?_
        refine ax_iload_n (i := 2) dM_held_93 rfl rfl ?_
        refine ax_goto 98 dM_held_94 (by decide) ?_
        cases hf
        exact Hr _ _ dM_held_98
      · refine ax_if_neT 97 dM_held_90 (by decide) hc ?_
        refine ax_iload_n (i := 3) dM_held_97 rfl rfl ?_
        cases hf
        exact Hr _ _ dM_held_98
theorem c_M_held {l : Launch} {E : EN} {h0 : AH} {o : Nat} {p1 : Int32} {r : Int32} {hF : AH} (hf : f_M_held h0 o p1 = some (r, hF)) : AM l E 4 mi_M_held [va_rf (some o), .int p1] h0 (some (.int r)) hF :=
  am_of2 [(va_rf (some o), false), (.int p1, false)] 3 ⟨cat_rf _, rfl, trivial⟩ rfl rfl (v_M_held (Nat.le_refl _) (Nat.le_refl _) (fun pc L hd => ax_iret rfl hd rfl) hf)
theorem w_M_world_L13 {l : Launch} {E : EN} {R : Room} {B : (Nat × Nat) × (Nat × Nat)} {Qf : QF} {h0 : AH} {r : Int32} {hF : AH} (hR1 : 4 ≤ R.frames) (hR2 : 256 ≤ R.locals) (Hr : ∀ (pc : Nat) (L : List (Option Value)), decode mi_M_world.2.1 pc = .ok (.ireturn, 1) → AW l E mi_M_world R B Qf pc L [.int r] hF) {y0 : Nat} {y1 : Int32} : ∀ (n : Nat) (z2 : Int32) (z3 : Int32), f_M_world_L13 h0 y0 y1 n z2 z3 = some (r, hF) → AW l E mi_M_world R B Qf 13 [some (va_rf (some y0)), some (.int y1), some (.int z2), some (.int z3)] [] h0 := by
  intro n
  induction n with
  | zero => intro z2 z3 hf; cases hf
  | succ n ih =>
    intro z2 z3 hf
    rw [f_M_world_L13] at hf
    refine ax_iload_n (i := 3) dM_world_13 rfl rfl ?_
    refine ax_sipush (4096 : Int32) dM_world_14 k16_4096 ?_
    replace hf := ite_c hf
    rcases hf with ⟨hc, hf⟩ | ⟨hc, hf⟩
    · refine ax_icmp_geF 48 dM_world_17 (by decide) hc ?_
      refine ax_iload_n (i := 1) dM_world_20 rfl rfl ?_
      replace hf := ite_c hf
      rcases hf with ⟨hc, hf⟩ | ⟨hc, hf⟩
      · refine ax_if_ltT 48 dM_world_21 (by decide) hc ?_
        refine ax_iconst (-1 : Int32) dM_world_48 k32_m1 ?_
        cases hf
        exact Hr _ _ dM_world_49
      · refine ax_if_ltF 48 dM_world_21 (by decide) hc ?_
        refine ax_aload_n (i := 0) (some y0) dM_world_24 rfl rfl ?_
        replace hf := bd1_s hf
        obtain ⟨r4, e_r4, hf⟩ := hf
        refine ax_getR fl_1068 rfl dM_world_25 e_r4 ?_
        refine ax_iload_n (i := 3) dM_world_28 rfl rfl ?_
        replace hf := bd1_s hf
        obtain ⟨a5, e_d, hf⟩ := hf
        subst e_d
        replace hf := bd1_s hf
        obtain ⟨x6, e_x6, hf⟩ := hf
        refine ax_zald dM_world_29 e_x6 ?_
        replace hf := ite_c hf
        rcases hf with ⟨hc, hf⟩ | ⟨hc, hf⟩
        · refine ax_if_eqT 42 dM_world_30 (by decide) hc ?_
          refine ax_iinc (i := 3) (z3 + (1 : Int32)) [some (va_rf (some y0)), some (.int y1), some (.int z2), some (.int (z3 + (1 : Int32)))] dM_world_42 rfl (iic k32_1) (Or.inr (c1i rfl)) rfl ?_
          refine ax_goto 13 dM_world_45 (by decide) ?_
          exact ih z2 (z3 + (1 : Int32)) hf
        · refine ax_if_eqF 42 dM_world_30 (by decide) hc ?_
          refine ax_iload_n (i := 2) dM_world_33 rfl rfl ?_
          replace hf := ite_c hf
          rcases hf with ⟨hc, hf⟩ | ⟨hc, hf⟩
          · refine ax_if_neF 39 dM_world_34 (by decide) hc ?_
            refine ax_iload_n (i := 3) dM_world_37 rfl rfl ?_
            cases hf
            exact Hr _ _ dM_world_38
          · refine ax_if_neT 39 dM_world_34 (by decide) hc ?_
            refine ax_iinc (i := 2) (z2 + (-1 : Int32)) [some (va_rf (some y0)), some (.int y1), some (.int (z2 + (-1 : Int32))), some (.int z3)] dM_world_39 rfl (iic k32_m1) (Or.inr (c1i rfl)) rfl ?_
            refine ax_iinc (i := 3) (z3 + (1 : Int32)) [some (va_rf (some y0)), some (.int y1), some (.int (z2 + (-1 : Int32))), some (.int (z3 + (1 : Int32)))] dM_world_42 rfl (iic k32_1) (Or.inr (c1i rfl)) rfl ?_
            refine ax_goto 13 dM_world_45 (by decide) ?_
            exact ih (z2 + (-1 : Int32)) (z3 + (1 : Int32)) hf
    · refine ax_icmp_geT 48 dM_world_17 (by decide) hc ?_
      refine ax_iconst (-1 : Int32) dM_world_48 k32_m1 ?_
      cases hf
      exact Hr _ _ dM_world_49
theorem v_M_world {l : Launch} {E : EN} {R : Room} {B : (Nat × Nat) × (Nat × Nat)} {Qf : QF} {h0 : AH} {o : Nat} {p1 : Int32} {r : Int32} {hF : AH} (hR1 : 4 ≤ R.frames) (hR2 : 256 ≤ R.locals) (Hr : ∀ (pc : Nat) (L : List (Option Value)), decode mi_M_world.2.1 pc = .ok (.ireturn, 1) → AW l E mi_M_world R B Qf pc L [.int r] hF) (hf : f_M_world h0 o p1 = some (r, hF)) : AW l E mi_M_world R B Qf 0 [some (va_rf (some o)), some (.int p1), none, none] [] h0 := by
  unfold f_M_world at hf
  refine ax_aload_n (i := 0) (some o) dM_world_0 rfl rfl ?_
  refine ax_aload_n (i := 0) (some o) dM_world_1 rfl rfl ?_
  replace hf := bd1_s hf
  obtain ⟨x1, e_x1, hf⟩ := hf
  refine ax_getI fl_1031 rfl dM_world_2 e_x1 ?_
  replace hf := bd2_s hf
  obtain ⟨x2, h3, e_x2, hf⟩ := hf
  obtain ⟨k_e_x2, e_x2⟩ := cv_s e_x2
  refine ax_callV (As := [.int x1]) (rest := []) (c_M_passAll e_x2) ml_1533 cm_M_passAll rfl k_e_x2 (Nat.le_trans (Nat.le_of_ble_eq_true rfl) hR1) (Nat.le_trans (Nat.le_of_ble_eq_true rfl) hR2) rfl rfl (Nat.le_of_ble_eq_true rfl) dM_world_5 ?_
  refine ax_pop dM_world_8 rfl ?_
  refine ax_iload_n (i := 1) dM_world_9 rfl rfl ?_
  refine ax_istore_n (i := 2) [some (va_rf (some o)), some (.int p1), some (.int p1), none] dM_world_10 rfl (Nat.le_of_ble_eq_true rfl) (Or.inr (c1i rfl)) rfl ?_
  refine ax_iconst (0 : Int32) dM_world_11 k32_0 ?_
  refine ax_istore_n (i := 3) [some (va_rf (some o)), some (.int p1), some (.int p1), some (.int (0 : Int32))] dM_world_12 rfl (Nat.le_of_ble_eq_true rfl) (Or.inr (c1i rfl)) rfl ?_
  refine w_M_world_L13 hR1 hR2 Hr FU p1 (0 : Int32) hf
theorem c_M_world {l : Launch} {E : EN} {h0 : AH} {o : Nat} {p1 : Int32} {r : Int32} {hF : AH} (hf : f_M_world h0 o p1 = some (r, hF)) : AM l E 4 mi_M_world [va_rf (some o), .int p1] h0 (some (.int r)) hF :=
  am_of2 [(va_rf (some o), false), (.int p1, false)] 2 ⟨cat_rf _, rfl, trivial⟩ rfl rfl (v_M_world (Nat.le_refl _) (Nat.le_refl _) (fun pc L hd => ax_iret rfl hd rfl) hf)
theorem w_M_brokenAt_L2 {l : Launch} {E : EN} {R : Room} {B : (Nat × Nat) × (Nat × Nat)} {Qf : QF} {r : Int32} {hF : AH} (hR1 : 4 ≤ R.frames) (hR2 : 256 ≤ R.locals) (Hr : ∀ (pc : Nat) (L : List (Option Value)), decode mi_M_brokenAt.2.1 pc = .ok (.ireturn, 1) → AW l E mi_M_brokenAt R B Qf pc L [.int r] hF) {y0 : Nat} : ∀ (n : Nat) (z1 : Int32) (h : AH), f_M_brokenAt_L2 y0 n z1 h = some (r, hF) → AW l E mi_M_brokenAt R B Qf 2 [some (va_rf (some y0)), some (.int z1)] [] h := by
  intro n
  induction n with
  | zero => intro z1 h hf; cases hf
  | succ n ih =>
    intro z1 h hf
    rw [f_M_brokenAt_L2] at hf
    refine ax_iload_n (i := 1) dM_brokenAt_2 rfl rfl ?_
    refine ax_aload_n (i := 0) (some y0) dM_brokenAt_3 rfl rfl ?_
    replace hf := bd1_s hf
    obtain ⟨x1, e_x1, hf⟩ := hf
    refine ax_getI fl_1031 rfl dM_brokenAt_4 e_x1 ?_
    replace hf := ite_c hf
    rcases hf with ⟨hc, hf⟩ | ⟨hc, hf⟩
    · refine ax_icmp_gtT 26 dM_brokenAt_7 (by decide) hc ?_
      refine ax_iconst (0 : Int32) dM_brokenAt_26 k32_0 ?_
      cases hf
      exact Hr _ _ dM_brokenAt_27
    · refine ax_icmp_gtF 26 dM_brokenAt_7 (by decide) hc ?_
      refine ax_aload_n (i := 0) (some y0) dM_brokenAt_10 rfl rfl ?_
      refine ax_iload_n (i := 1) dM_brokenAt_11 rfl rfl ?_
      replace hf := bd2_s hf
      obtain ⟨x2, h3, e_x2, hf⟩ := hf
      obtain ⟨k_e_x2, e_x2⟩ := cv_s e_x2
      refine ax_callV (As := [.int z1]) (rest := []) (c_M_passAll e_x2) ml_1533 cm_M_passAll rfl k_e_x2 (Nat.le_trans (Nat.le_of_ble_eq_true rfl) hR1) (Nat.le_trans (Nat.le_of_ble_eq_true rfl) hR2) rfl rfl (Nat.le_of_ble_eq_true rfl) dM_brokenAt_12 ?_
      replace hf := ite_c hf
      rcases hf with ⟨hc, hf⟩ | ⟨hc, hf⟩
      · refine ax_if_neF 20 dM_brokenAt_15 (by decide) hc ?_
        refine ax_iload_n (i := 1) dM_brokenAt_18 rfl rfl ?_
        cases hf
        exact Hr _ _ dM_brokenAt_19
      · refine ax_if_neT 20 dM_brokenAt_15 (by decide) hc ?_
        refine ax_iinc (i := 1) (z1 + (1 : Int32)) [some (va_rf (some y0)), some (.int (z1 + (1 : Int32)))] dM_brokenAt_20 rfl (iic k32_1) (Or.inr (c1r rfl)) rfl ?_
        refine ax_goto 2 dM_brokenAt_23 (by decide) ?_
        exact ih (z1 + (1 : Int32)) h3 hf
theorem v_M_brokenAt {l : Launch} {E : EN} {R : Room} {B : (Nat × Nat) × (Nat × Nat)} {Qf : QF} {h0 : AH} {o : Nat} {r : Int32} {hF : AH} (hR1 : 4 ≤ R.frames) (hR2 : 256 ≤ R.locals) (Hr : ∀ (pc : Nat) (L : List (Option Value)), decode mi_M_brokenAt.2.1 pc = .ok (.ireturn, 1) → AW l E mi_M_brokenAt R B Qf pc L [.int r] hF) (hf : f_M_brokenAt h0 o = some (r, hF)) : AW l E mi_M_brokenAt R B Qf 0 [some (va_rf (some o)), none] [] h0 := by
  unfold f_M_brokenAt at hf
  refine ax_iconst (1 : Int32) dM_brokenAt_0 k32_1 ?_
  refine ax_istore_n (i := 1) [some (va_rf (some o)), some (.int (1 : Int32))] dM_brokenAt_1 rfl (Nat.le_of_ble_eq_true rfl) (Or.inr (c1r rfl)) rfl ?_
  refine w_M_brokenAt_L2 hR1 hR2 Hr FU (1 : Int32) h0 hf
theorem c_M_brokenAt {l : Launch} {E : EN} {h0 : AH} {o : Nat} {r : Int32} {hF : AH} (hf : f_M_brokenAt h0 o = some (r, hF)) : AM l E 4 mi_M_brokenAt [va_rf (some o)] h0 (some (.int r)) hF :=
  am_of2 [(va_rf (some o), false)] 1 ⟨cat_rf _, trivial⟩ rfl rfl (v_M_brokenAt (Nat.le_refl _) (Nat.le_refl _) (fun pc L hd => ax_iret rfl hd rfl) hf)
theorem v_M_broken {l : Launch} {E : EN} {R : Room} {B : (Nat × Nat) × (Nat × Nat)} {Qf : QF} {h0 : AH} {o : Nat} {r : Int32} {hF : AH} (hR1 : 5 ≤ R.frames) (hR2 : 320 ≤ R.locals) (Hr : ∀ (pc : Nat) (L : List (Option Value)), decode mi_M_broken.2.1 pc = .ok (.ireturn, 1) → AW l E mi_M_broken R B Qf pc L [.int r] hF) (hf : f_M_broken h0 o = some (r, hF)) : AW l E mi_M_broken R B Qf 0 [some (va_rf (some o))] [] h0 := by
  unfold f_M_broken at hf
  refine ax_aload_n (i := 0) (some o) dM_broken_0 rfl rfl ?_
  replace hf := bd2_s hf
  obtain ⟨x1, h2, e_x1, hf⟩ := hf
  obtain ⟨k_e_x1, e_x1⟩ := cv_s e_x1
  refine ax_callV (As := []) (rest := []) (c_M_brokenAt e_x1) ml_1557 cm_M_brokenAt rfl k_e_x1 (Nat.le_trans (Nat.le_of_ble_eq_true rfl) hR1) (Nat.le_trans (Nat.le_of_ble_eq_true rfl) hR2) rfl rfl (Nat.le_of_ble_eq_true rfl) dM_broken_1 ?_
  cases hf
  exact Hr _ _ dM_broken_4
theorem c_M_broken {l : Launch} {E : EN} {h0 : AH} {o : Nat} {r : Int32} {hF : AH} (hf : f_M_broken h0 o = some (r, hF)) : AM l E 5 mi_M_broken [va_rf (some o)] h0 (some (.int r)) hF :=
  am_of2 [(va_rf (some o), false)] 0 ⟨cat_rf _, trivial⟩ rfl rfl (v_M_broken (Nat.le_refl _) (Nat.le_refl _) (fun pc L hd => ax_iret rfl hd rfl) hf)
