theorem w_M_readPage_L17 {l : Launch} {E : EN} {R : Room} {B : (Nat × Nat) × (Nat × Nat)} {Qf : QF} {ρ : Type} {res : ρ} (hR1 : 4 ≤ R.frames) (hR2 : 256 ≤ R.locals) {y0 : Nat} {k : AH → Option (ρ)} (hk : ∀ (h : AH), k h = some res → AW l E mi_M_readPage R B Qf 36 [some (va_rf (some y0)), none, none, none, none, none] [] h) : ∀ (n : Nat) (z1 : Int32) (h : AH), f_M_readPage_L17 y0 k n z1 h = some res → AW l E mi_M_readPage R B Qf 17 [some (va_rf (some y0)), some (.int z1), none, none, none, none] [] h := by
  intro n
  induction n with
  | zero => intro z1 h hf; cases hf
  | succ n ih =>
    intro z1 h hf
    rw [f_M_readPage_L17] at hf
    refine ax_iload_n (i := 1) dM_readPage_17 rfl rfl ?_
    refine ax_bipush (40 : Int32) dM_readPage_18 k8_40 ?_
    replace hf := ite_c hf
    rcases hf with ⟨hc, hf⟩ | ⟨hc, hf⟩
    · refine ax_icmp_geF 36 dM_readPage_20 (by decide) hc ?_
      refine ax_aload_n (i := 0) (some y0) dM_readPage_23 rfl rfl ?_
      replace hf := bd1_s hf
      obtain ⟨r4, e_r4, hf⟩ := hf
      refine ax_getR fl_1045 rfl dM_readPage_24 e_r4 ?_
      refine ax_iload_n (i := 1) dM_readPage_27 rfl rfl ?_
      refine ax_lconst (0 : Int64) dM_readPage_28 kl_0 ?_
      replace hf := bd1_s hf
      obtain ⟨a5, e_d, hf⟩ := hf
      subst e_d
      replace hf := bd1_s hf
      obtain ⟨h6, e_h6, hf⟩ := hf
      refine ax_last dM_readPage_29 e_h6 ?_
      refine ax_iinc (i := 1) (z1 + (1 : Int32)) [some (va_rf (some y0)), some (.int (z1 + (1 : Int32))), none, none, none, none] dM_readPage_30 rfl (iic k32_1) (Or.inr (c1r rfl)) rfl ?_
      refine ax_goto 17 dM_readPage_33 (by decide) ?_
      exact ih (z1 + (1 : Int32)) h6 hf
    · refine ax_icmp_geT 36 dM_readPage_20 (by decide) hc ?_
      refine ax_mask [true, false, true, true, true, true] rfl [some (va_rf (some y0)), none, none, none, none, none] rfl ?_
      exact hk h hf
theorem w_M_readPage_L45 {l : Launch} {E : EN} {R : Room} {B : (Nat × Nat) × (Nat × Nat)} {Qf : QF} {ρ : Type} {res : ρ} (hR1 : 4 ≤ R.frames) (hR2 : 256 ≤ R.locals) {y0 : Nat} {k : Int32 → Int32 → Int32 → AH → Option (ρ)} (hk : ∀ (z1 : Int32) (z2 : Int32) (z3 : Int32) (h : AH), k z1 z2 z3 h = some res → AW l E mi_M_readPage R B Qf 372 [some (va_rf (some y0)), some (.int z1), some (.int z2), some (.int z3), none, none] [] h) : ∀ (n : Nat) (z1 : Int32) (z2 : Int32) (z3 : Int32) (z4 : Int32) (h : AH), f_M_readPage_L45 y0 k n z1 z2 z3 z4 h = some res → AW l E mi_M_readPage R B Qf 45 [some (va_rf (some y0)), some (.int z1), some (.int z2), some (.int z3), some (.int z4), none] [] h := by
  intro n
  induction n with
  | zero => intro z1 z2 z3 z4 h hf; cases hf
  | succ n ih =>
    intro z1 z2 z3 z4 h hf
    rw [f_M_readPage_L45] at hf
    refine ax_iload_n (i := 3) dM_readPage_45 rfl rfl ?_
    refine ax_aload_n (i := 0) (some y0) dM_readPage_46 rfl rfl ?_
    replace hf := bd1_s hf
    obtain ⟨x8, e_x8, hf⟩ := hf
    refine ax_getI fl_1013 rfl dM_readPage_47 e_x8 ?_
    replace hf := ite_c hf
    rcases hf with ⟨hc, hf⟩ | ⟨hc, hf⟩
    · refine ax_icmp_geF 372 dM_readPage_50 (by decide) hc ?_
      refine ax_iload (i := 4) dM_readPage_53 rfl ?_
      replace hf := ite_c hf
      rcases hf with ⟨hc, hf⟩ | ⟨hc, hf⟩
      · refine ax_if_eqT 372 dM_readPage_55 (by decide) hc ?_
        refine ax_mask [true, true, true, true, false, true] rfl [some (va_rf (some y0)), some (.int z1), some (.int z2), some (.int z3), none, none] rfl ?_
        exact hk z1 z2 z3 h hf
      · refine ax_if_eqF 372 dM_readPage_55 (by decide) hc ?_
        refine ax_aload_n (i := 0) (some y0) dM_readPage_58 rfl rfl ?_
        replace hf := bd1_s hf
        obtain ⟨r9, e_r9, hf⟩ := hf
        refine ax_getR fl_1014 rfl dM_readPage_59 e_r9 ?_
        refine ax_iload_n (i := 3) dM_readPage_62 rfl rfl ?_
        replace hf := bd1_s hf
        obtain ⟨a10, e_d, hf⟩ := hf
        subst e_d
        replace hf := bd1_s hf
        obtain ⟨x11, e_x11, hf⟩ := hf
        refine ax_bald dM_readPage_63 e_x11 ?_
        refine ax_istore (i := 5) [some (va_rf (some y0)), some (.int z1), some (.int z2), some (.int z3), some (.int z4), some (.int x11)] dM_readPage_64 (Nat.le_of_ble_eq_true rfl) (Or.inr (c1i rfl)) rfl ?_
        refine ax_iload_n (i := 2) dM_readPage_66 rfl rfl ?_
        refine ax_iconst (-1 : Int32) dM_readPage_67 k32_m1 ?_
        replace hf := bd4_s hf
        obtain ⟨x185, x186, x187, h188, hT, hf⟩ := hf
        have K : AW l E mi_M_readPage R B Qf 356 [some (va_rf (some y0)), some (.int x185), some (.int x186), some (.int z3), some (.int x187), none] [] h188 := by
          clear hT
          refine ax_iload_n (i := 3) dM_readPage_356 rfl rfl ?_
          refine ax_iload (i := 4) dM_readPage_357 rfl ?_
          replace hf := bd1_s hf
          obtain ⟨x189, hT, hf⟩ := hf
          have K : AW l E mi_M_readPage R B Qf 367 [some (va_rf (some y0)), some (.int x185), some (.int x186), none, some (.int x187), none] [.int x189, .int z3] h188 := by
            clear hT
            refine ax_iadd dM_readPage_367 ?_
            replace hf := bd1_s hf
            obtain ⟨x190, e_x190, hf⟩ := hf
            refine ax_nmI (Option.some.inj e_x190) ?_
            refine ax_istore_n (i := 3) [some (va_rf (some y0)), some (.int x185), some (.int x186), some (.int x190), some (.int x187), none] dM_readPage_368 rfl (Nat.le_of_ble_eq_true rfl) (Or.inr (c1i rfl)) rfl ?_
            refine ax_goto 45 dM_readPage_369 (by decide) ?_
            exact ih x185 x186 x190 x187 h188 hf
          replace hf := hT
          clear hT
          replace hf := ite_c hf
          rcases hf with ⟨hc, hf⟩ | ⟨hc, hf⟩
          · refine ax_if_eqT 366 dM_readPage_359 (by decide) hc ?_
            refine ax_iconst (0 : Int32) dM_readPage_366 k32_0 ?_
            refine ax_mask [true, true, true, false, true, true] rfl [some (va_rf (some y0)), some (.int x185), some (.int x186), none, some (.int x187), none] rfl ?_
            cases hf
            exact K
          · refine ax_if_eqF 366 dM_readPage_359 (by decide) hc ?_
            refine ax_iconst (1 : Int32) dM_readPage_362 k32_1 ?_
            refine ax_goto 367 dM_readPage_363 (by decide) ?_
            refine ax_mask [true, true, true, false, true, true] rfl [some (va_rf (some y0)), some (.int x185), some (.int x186), none, some (.int x187), none] rfl ?_
            cases hf
            exact K
        replace hf := hT
        clear hT
        replace hf := ite_c hf
        rcases hf with ⟨hc, hf⟩ | ⟨hc, hf⟩
        · refine ax_icmp_eqT 143 dM_readPage_68 (by decide) hc ?_
          refine ax_iload (i := 5) dM_readPage_143 rfl ?_
          refine ax_bipush (63 : Int32) dM_readPage_145 k8_63 ?_
          replace hf := ite_c hf
          rcases hf with ⟨hc, hf⟩ | ⟨hc, hf⟩
          · refine ax_icmp_eqT 157 dM_readPage_147 (by decide) hc ?_
            refine ax_iload (i := 5) dM_readPage_157 rfl ?_
            refine ax_bipush (33 : Int32) dM_readPage_159 k8_33 ?_
            replace hf := ite_c hf
            rcases hf with ⟨hc, hf⟩ | ⟨hc, hf⟩
            · refine ax_icmp_neF 168 dM_readPage_161 (by decide) hc ?_
              refine ax_iconst (1 : Int32) dM_readPage_164 k32_1 ?_
              refine ax_goto 169 dM_readPage_165 (by decide) ?_
              refine ax_istore_n (i := 2) [some (va_rf (some y0)), some (.int z1), some (.int (1 : Int32)), some (.int z3), some (.int z4), some (.int x11)] dM_readPage_169 rfl (Nat.le_of_ble_eq_true rfl) (Or.inr (c1i rfl)) rfl ?_
              refine ax_goto 356 dM_readPage_170 (by decide) ?_
              refine ax_mask [true, true, true, true, true, false] rfl [some (va_rf (some y0)), some (.int z1), some (.int (1 : Int32)), some (.int z3), some (.int z4), none] rfl ?_
              cases hf
              exact K
            · refine ax_icmp_neT 168 dM_readPage_161 (by decide) hc ?_
              refine ax_iconst (0 : Int32) dM_readPage_168 k32_0 ?_
              refine ax_istore_n (i := 2) [some (va_rf (some y0)), some (.int z1), some (.int (0 : Int32)), some (.int z3), some (.int z4), some (.int x11)] dM_readPage_169 rfl (Nat.le_of_ble_eq_true rfl) (Or.inr (c1i rfl)) rfl ?_
              refine ax_goto 356 dM_readPage_170 (by decide) ?_
              refine ax_mask [true, true, true, true, true, false] rfl [some (va_rf (some y0)), some (.int z1), some (.int (0 : Int32)), some (.int z3), some (.int z4), none] rfl ?_
              cases hf
              exact K
          · refine ax_icmp_eqF 157 dM_readPage_147 (by decide) hc ?_
            refine ax_iload (i := 5) dM_readPage_150 rfl ?_
            refine ax_bipush (33 : Int32) dM_readPage_152 k8_33 ?_
            replace hf := ite_c hf
            rcases hf with ⟨hc, hf⟩ | ⟨hc, hf⟩
            · refine ax_icmp_neF 173 dM_readPage_154 (by decide) hc ?_
              refine ax_iload (i := 5) dM_readPage_157 rfl ?_
              refine ax_bipush (33 : Int32) dM_readPage_159 k8_33 ?_
              replace hf := ite_c hf
              rcases hf with ⟨hc, hf⟩ | ⟨hc, hf⟩
              · refine ax_icmp_neF 168 dM_readPage_161 (by decide) hc ?_
                refine ax_iconst (1 : Int32) dM_readPage_164 k32_1 ?_
                refine ax_goto 169 dM_readPage_165 (by decide) ?_
                refine ax_istore_n (i := 2) [some (va_rf (some y0)), some (.int z1), some (.int (1 : Int32)), some (.int z3), some (.int z4), some (.int x11)] dM_readPage_169 rfl (Nat.le_of_ble_eq_true rfl) (Or.inr (c1i rfl)) rfl ?_
                refine ax_goto 356 dM_readPage_170 (by decide) ?_
                refine ax_mask [true, true, true, true, true, false] rfl [some (va_rf (some y0)), some (.int z1), some (.int (1 : Int32)), some (.int z3), some (.int z4), none] rfl ?_
                cases hf
                exact K
              · refine ax_icmp_neT 168 dM_readPage_161 (by decide) hc ?_
                refine ax_iconst (0 : Int32) dM_readPage_168 k32_0 ?_
                refine ax_istore_n (i := 2) [some (va_rf (some y0)), some (.int z1), some (.int (0 : Int32)), some (.int z3), some (.int z4), some (.int x11)] dM_readPage_169 rfl (Nat.le_of_ble_eq_true rfl) (Or.inr (c1i rfl)) rfl ?_
                refine ax_goto 356 dM_readPage_170 (by decide) ?_
                refine ax_mask [true, true, true, true, true, false] rfl [some (va_rf (some y0)), some (.int z1), some (.int (0 : Int32)), some (.int z3), some (.int z4), none] rfl ?_
                cases hf
                exact K
            · refine ax_icmp_neT 173 dM_readPage_154 (by decide) hc ?_
              refine ax_iload (i := 5) dM_readPage_173 rfl ?_
              refine ax_bipush (40 : Int32) dM_readPage_175 k8_40 ?_
              replace hf := ite_c hf
              rcases hf with ⟨hc, hf⟩ | ⟨hc, hf⟩
              · refine ax_icmp_eqT 187 dM_readPage_177 (by decide) hc ?_
                refine ax_aload_n (i := 0) (some y0) dM_readPage_187 rfl rfl ?_
                refine ax_iload (i := 5) dM_readPage_188 rfl ?_
                refine ax_bipush (40 : Int32) dM_readPage_190 k8_40 ?_
                replace hf := bd1_s hf
                obtain ⟨x12, hT, hf⟩ := hf
                have K : AW l E mi_M_readPage R B Qf 200 [some (va_rf (some y0)), none, some (.int z2), some (.int z3), some (.int z4), none] [.int x12, va_rf (some y0)] h := by
                  clear hT
                  replace hf := bd1_s hf
                  obtain ⟨h13, e_h13, hf⟩ := hf
                  obtain ⟨k_e_h13, e_h13⟩ := cv_s e_h13
                  refine ax_callV (As := [.int x12]) (rest := []) (c_M_open e_h13) ml_1207 cm_M_open rfl k_e_h13 (Nat.le_trans (Nat.le_of_ble_eq_true rfl) hR1) (Nat.le_trans (Nat.le_of_ble_eq_true rfl) hR2) rfl rfl (Nat.le_of_ble_eq_true rfl) dM_readPage_200 ?_
                  refine ax_iconst (0 : Int32) dM_readPage_203 k32_0 ?_
                  refine ax_istore_n (i := 1) [some (va_rf (some y0)), some (.int (0 : Int32)), some (.int z2), some (.int z3), some (.int z4), none] dM_readPage_204 rfl (Nat.le_of_ble_eq_true rfl) (Or.inr (c1r rfl)) rfl ?_
                  refine ax_goto 356 dM_readPage_205 (by decide) ?_
                  cases hf
                  exact K
                replace hf := hT
                clear hT
                replace hf := ite_c hf
                rcases hf with ⟨hc, hf⟩ | ⟨hc, hf⟩
                · refine ax_icmp_neF 199 dM_readPage_192 (by decide) hc ?_
                  refine ax_iconst (1 : Int32) dM_readPage_195 k32_1 ?_
                  refine ax_goto 200 dM_readPage_196 (by decide) ?_
                  refine ax_mask [true, false, true, true, true, false] rfl [some (va_rf (some y0)), none, some (.int z2), some (.int z3), some (.int z4), none] rfl ?_
                  cases hf
                  exact K
                · refine ax_icmp_neT 199 dM_readPage_192 (by decide) hc ?_
                  refine ax_iconst (2 : Int32) dM_readPage_199 k32_2 ?_
                  refine ax_mask [true, false, true, true, true, false] rfl [some (va_rf (some y0)), none, some (.int z2), some (.int z3), some (.int z4), none] rfl ?_
                  cases hf
                  exact K
              · refine ax_icmp_eqF 187 dM_readPage_177 (by decide) hc ?_
                refine ax_iload (i := 5) dM_readPage_180 rfl ?_
                refine ax_bipush (123 : Int32) dM_readPage_182 k8_123 ?_
                replace hf := ite_c hf
                rcases hf with ⟨hc, hf⟩ | ⟨hc, hf⟩
                · refine ax_icmp_neF 208 dM_readPage_184 (by decide) hc ?_
                  refine ax_aload_n (i := 0) (some y0) dM_readPage_187 rfl rfl ?_
                  refine ax_iload (i := 5) dM_readPage_188 rfl ?_
                  refine ax_bipush (40 : Int32) dM_readPage_190 k8_40 ?_
                  replace hf := bd1_s hf
                  obtain ⟨x173, hT, hf⟩ := hf
                  have K : AW l E mi_M_readPage R B Qf 200 [some (va_rf (some y0)), none, some (.int z2), some (.int z3), some (.int z4), none] [.int x173, va_rf (some y0)] h := by
                    clear hT
                    replace hf := bd1_s hf
                    obtain ⟨h174, e_h174, hf⟩ := hf
                    obtain ⟨k_e_h174, e_h174⟩ := cv_s e_h174
                    refine ax_callV (As := [.int x173]) (rest := []) (c_M_open e_h174) ml_1207 cm_M_open rfl k_e_h174 (Nat.le_trans (Nat.le_of_ble_eq_true rfl) hR1) (Nat.le_trans (Nat.le_of_ble_eq_true rfl) hR2) rfl rfl (Nat.le_of_ble_eq_true rfl) dM_readPage_200 ?_
                    refine ax_iconst (0 : Int32) dM_readPage_203 k32_0 ?_
                    refine ax_istore_n (i := 1) [some (va_rf (some y0)), some (.int (0 : Int32)), some (.int z2), some (.int z3), some (.int z4), none] dM_readPage_204 rfl (Nat.le_of_ble_eq_true rfl) (Or.inr (c1r rfl)) rfl ?_
                    refine ax_goto 356 dM_readPage_205 (by decide) ?_
                    cases hf
                    exact K
                  replace hf := hT
                  clear hT
                  replace hf := ite_c hf
                  rcases hf with ⟨hc, hf⟩ | ⟨hc, hf⟩
                  · refine ax_icmp_neF 199 dM_readPage_192 (by decide) hc ?_
                    refine ax_iconst (1 : Int32) dM_readPage_195 k32_1 ?_
                    refine ax_goto 200 dM_readPage_196 (by decide) ?_
                    refine ax_mask [true, false, true, true, true, false] rfl [some (va_rf (some y0)), none, some (.int z2), some (.int z3), some (.int z4), none] rfl ?_
                    cases hf
                    exact K
                  · refine ax_icmp_neT 199 dM_readPage_192 (by decide) hc ?_
                    refine ax_iconst (2 : Int32) dM_readPage_199 k32_2 ?_
                    refine ax_mask [true, false, true, true, true, false] rfl [some (va_rf (some y0)), none, some (.int z2), some (.int z3), some (.int z4), none] rfl ?_
                    cases hf
                    exact K
                · refine ax_icmp_neT 208 dM_readPage_184 (by decide) hc ?_
                  refine ax_iload (i := 5) dM_readPage_208 rfl ?_
                  refine ax_bipush (48 : Int32) dM_readPage_210 k8_48 ?_
                  replace hf := ite_c hf
                  rcases hf with ⟨hc, hf⟩ | ⟨hc, hf⟩
                  · refine ax_icmp_neF 227 dM_readPage_212 (by decide) hc ?_
                    refine ax_aload_n (i := 0) (some y0) dM_readPage_215 rfl rfl ?_
                    refine ax_iconst (1 : Int32) dM_readPage_216 k32_1 ?_
                    refine ax_lconst (0 : Int64) dM_readPage_217 kl_0 ?_
                    refine ax_lconst (0 : Int64) dM_readPage_218 kl_0 ?_
                    replace hf := bd1_s hf
                    obtain ⟨h172, e_h172, hf⟩ := hf
                    obtain ⟨k_e_h172, e_h172⟩ := cv_s e_h172
                    refine ax_callV (As := [.int (1 : Int32), .long (0 : Int64), .long (0 : Int64)]) (rest := []) (c_M_append e_h172) ml_1218 cm_M_append rfl k_e_h172 (Nat.le_trans (Nat.le_of_ble_eq_true rfl) hR1) (Nat.le_trans (Nat.le_of_ble_eq_true rfl) hR2) rfl rfl (Nat.le_of_ble_eq_true rfl) dM_readPage_219 ?_
                    refine ax_iconst (1 : Int32) dM_readPage_222 k32_1 ?_
                    refine ax_istore_n (i := 1) [some (va_rf (some y0)), some (.int (1 : Int32)), some (.int z2), some (.int z3), some (.int z4), some (.int x11)] dM_readPage_223 rfl (Nat.le_of_ble_eq_true rfl) (Or.inr (c1r rfl)) rfl ?_
                    refine ax_goto 356 dM_readPage_224 (by decide) ?_
                    refine ax_mask [true, true, true, true, true, false] rfl [some (va_rf (some y0)), some (.int (1 : Int32)), some (.int z2), some (.int z3), some (.int z4), none] rfl ?_
                    cases hf
                    exact K
                  · refine ax_icmp_neT 227 dM_readPage_212 (by decide) hc ?_
                    refine ax_iload (i := 5) dM_readPage_227 rfl ?_
                    refine ax_bipush (124 : Int32) dM_readPage_229 k8_124 ?_
                    replace hf := ite_c hf
                    rcases hf with ⟨hc, hf⟩ | ⟨hc, hf⟩
                    · refine ax_icmp_neF 277 dM_readPage_231 (by decide) hc ?_
                      refine ax_iload_n (i := 1) dM_readPage_234 rfl rfl ?_
                      replace hf := ite_c hf
                      rcases hf with ⟨hc, hf⟩ | ⟨hc, hf⟩
                      · refine ax_if_eqT 277 dM_readPage_235 (by decide) hc ?_
                        refine ax_iload (i := 5) dM_readPage_277 rfl ?_
                        refine ax_bipush (41 : Int32) dM_readPage_279 k8_41 ?_
                        replace hf := ite_c hf
                        rcases hf with ⟨hc, hf⟩ | ⟨hc, hf⟩
                        · refine ax_icmp_neF 313 dM_readPage_281 (by decide) hc ?_
                          refine ax_iload_n (i := 1) dM_readPage_284 rfl rfl ?_
                          replace hf := ite_c hf
                          rcases hf with ⟨hc, hf⟩ | ⟨hc, hf⟩
                          · refine ax_if_eqT 313 dM_readPage_285 (by decide) hc ?_
                            refine ax_iload (i := 5) dM_readPage_313 rfl ?_
                            refine ax_bipush (125 : Int32) dM_readPage_315 k8_125 ?_
                            replace hf := ite_c hf
                            rcases hf with ⟨hc, hf⟩ | ⟨hc, hf⟩
                            · refine ax_icmp_neF 353 dM_readPage_317 (by decide) hc ?_
                              refine ax_iload_n (i := 1) dM_readPage_320 rfl rfl ?_
                              replace hf := ite_c hf
                              rcases hf with ⟨hc, hf⟩ | ⟨hc, hf⟩
                              · refine ax_if_eqT 353 dM_readPage_321 (by decide) hc ?_
                                refine ax_iconst (0 : Int32) dM_readPage_353 k32_0 ?_
                                refine ax_istore (i := 4) [some (va_rf (some y0)), some (.int z1), some (.int z2), some (.int z3), some (.int (0 : Int32)), some (.int x11)] dM_readPage_354 (Nat.le_of_ble_eq_true rfl) (Or.inr (c1i rfl)) rfl ?_
                                refine ax_mask [true, true, true, true, true, false] rfl [some (va_rf (some y0)), some (.int z1), some (.int z2), some (.int z3), some (.int (0 : Int32)), none] rfl ?_
                                cases hf
                                exact K
                              · refine ax_if_eqF 353 dM_readPage_321 (by decide) hc ?_
                                refine ax_aload_n (i := 0) (some y0) dM_readPage_324 rfl rfl ?_
                                replace hf := bd1_s hf
                                obtain ⟨r72, e_r72, hf⟩ := hf
                                refine ax_getR fl_1035 rfl dM_readPage_325 e_r72 ?_
                                refine ax_aload_n (i := 0) (some y0) dM_readPage_328 rfl rfl ?_
                                replace hf := bd1_s hf
                                obtain ⟨x73, e_x73, hf⟩ := hf
                                refine ax_getI fl_1034 rfl dM_readPage_329 e_x73 ?_
                                replace hf := bd1_s hf
                                obtain ⟨a74, e_d, hf⟩ := hf
                                subst e_d
                                replace hf := bd1_s hf
                                obtain ⟨x75, e_x75, hf⟩ := hf
                                refine ax_iald dM_readPage_332 e_x75 ?_
                                refine ax_iconst (2 : Int32) dM_readPage_333 k32_2 ?_
                                replace hf := ite_c hf
                                rcases hf with ⟨hc, hf⟩ | ⟨hc, hf⟩
                                · refine ax_icmp_neF 353 dM_readPage_334 (by decide) hc ?_
                                  refine ax_aload_n (i := 0) (some y0) dM_readPage_337 rfl rfl ?_
                                  refine ax_aload_n (i := 0) (some y0) dM_readPage_338 rfl rfl ?_
                                  replace hf := bd1_s hf
                                  obtain ⟨r76, e_r76, hf⟩ := hf
                                  refine ax_getR fl_1035 rfl dM_readPage_339 e_r76 ?_
                                  refine ax_aload_n (i := 0) (some y0) dM_readPage_342 rfl rfl ?_
                                  replace hf := bd1_s hf
                                  obtain ⟨x77, e_x77, hf⟩ := hf
                                  refine ax_getI fl_1034 rfl dM_readPage_343 e_x77 ?_
                                  replace hf := bd1_s hf
                                  obtain ⟨a78, e_d, hf⟩ := hf
                                  subst e_d
                                  replace hf := bd1_s hf
                                  obtain ⟨x79, e_x79, hf⟩ := hf
                                  refine ax_iald dM_readPage_346 e_x79 ?_
                                  replace hf := bd1_s hf
                                  obtain ⟨h80, e_h80, hf⟩ := hf
                                  obtain ⟨k_e_h80, e_h80⟩ := cv_s e_h80
                                  refine ax_callV (As := [.int x79]) (rest := []) (c_M_close e_h80) ml_1230 cm_M_close rfl k_e_h80 (Nat.le_trans (Nat.le_of_ble_eq_true rfl) hR1) (Nat.le_trans (Nat.le_of_ble_eq_true rfl) hR2) rfl rfl (Nat.le_of_ble_eq_true rfl) dM_readPage_347 ?_
                                  refine ax_goto 356 dM_readPage_350 (by decide) ?_
                                  refine ax_mask [true, true, true, true, true, false] rfl [some (va_rf (some y0)), some (.int z1), some (.int z2), some (.int z3), some (.int z4), none] rfl ?_
                                  cases hf
                                  exact K
                                · refine ax_icmp_neT 353 dM_readPage_334 (by decide) hc ?_
                                  refine ax_iconst (0 : Int32) dM_readPage_353 k32_0 ?_
                                  refine ax_istore (i := 4) [some (va_rf (some y0)), some (.int z1), some (.int z2), some (.int z3), some (.int (0 : Int32)), some (.int x11)] dM_readPage_354 (Nat.le_of_ble_eq_true rfl) (Or.inr (c1i rfl)) rfl ?_
                                  refine ax_mask [true, true, true, true, true, false] rfl [some (va_rf (some y0)), some (.int z1), some (.int z2), some (.int z3), some (.int (0 : Int32)), none] rfl ?_
                                  cases hf
                                  exact K
                            · refine ax_icmp_neT 353 dM_readPage_317 (by decide) hc ?_
                              refine ax_iconst (0 : Int32) dM_readPage_353 k32_0 ?_
                              refine ax_istore (i := 4) [some (va_rf (some y0)), some (.int z1), some (.int z2), some (.int z3), some (.int (0 : Int32)), some (.int x11)] dM_readPage_354 (Nat.le_of_ble_eq_true rfl) (Or.inr (c1i rfl)) rfl ?_
                              refine ax_mask [true, true, true, true, true, false] rfl [some (va_rf (some y0)), some (.int z1), some (.int z2), some (.int z3), some (.int (0 : Int32)), none] rfl ?_
                              cases hf
                              exact K
                          · refine ax_if_eqF 313 dM_readPage_285 (by decide) hc ?_
                            refine ax_aload_n (i := 0) (some y0) dM_readPage_288 rfl rfl ?_
                            replace hf := bd1_s hf
                            obtain ⟨r81, e_r81, hf⟩ := hf
                            refine ax_getR fl_1035 rfl dM_readPage_289 e_r81 ?_
                            refine ax_aload_n (i := 0) (some y0) dM_readPage_292 rfl rfl ?_
                            replace hf := bd1_s hf
                            obtain ⟨x82, e_x82, hf⟩ := hf
                            refine ax_getI fl_1034 rfl dM_readPage_293 e_x82 ?_
                            replace hf := bd1_s hf
                            obtain ⟨a83, e_d, hf⟩ := hf
                            subst e_d
                            replace hf := bd1_s hf
                            obtain ⟨x84, e_x84, hf⟩ := hf
                            refine ax_iald dM_readPage_296 e_x84 ?_
                            refine ax_iconst (1 : Int32) dM_readPage_297 k32_1 ?_
                            replace hf := ite_c hf
                            rcases hf with ⟨hc, hf⟩ | ⟨hc, hf⟩
                            · refine ax_icmp_neF 313 dM_readPage_298 (by decide) hc ?_
                              refine ax_aload_n (i := 0) (some y0) dM_readPage_301 rfl rfl ?_
                              replace hf := bd1_s hf
                              obtain ⟨r94, e_r94, hf⟩ := hf
                              refine ax_getR fl_1036 rfl dM_readPage_302 e_r94 ?_
                              refine ax_aload_n (i := 0) (some y0) dM_readPage_305 rfl rfl ?_
                              replace hf := bd1_s hf
                              obtain ⟨x95, e_x95, hf⟩ := hf
                              refine ax_getI fl_1034 rfl dM_readPage_306 e_x95 ?_
                              replace hf := bd1_s hf
                              obtain ⟨a96, e_d, hf⟩ := hf
                              subst e_d
                              replace hf := bd1_s hf
                              obtain ⟨x97, e_x97, hf⟩ := hf
                              refine ax_iald dM_readPage_309 e_x97 ?_
                              replace hf := ite_c hf
                              rcases hf with ⟨hc, hf⟩ | ⟨hc, hf⟩
                              · refine ax_if_gtT 337 dM_readPage_310 (by decide) hc ?_
                                refine ax_aload_n (i := 0) (some y0) dM_readPage_337 rfl rfl ?_
                                refine ax_aload_n (i := 0) (some y0) dM_readPage_338 rfl rfl ?_
                                replace hf := bd1_s hf
                                obtain ⟨r98, e_r98, hf⟩ := hf
                                refine ax_getR fl_1035 rfl dM_readPage_339 e_r98 ?_
                                refine ax_aload_n (i := 0) (some y0) dM_readPage_342 rfl rfl ?_
                                replace hf := bd1_s hf
                                obtain ⟨x99, e_x99, hf⟩ := hf
                                refine ax_getI fl_1034 rfl dM_readPage_343 e_x99 ?_
                                replace hf := bd1_s hf
                                obtain ⟨a100, e_d, hf⟩ := hf
                                subst e_d
                                replace hf := bd1_s hf
                                obtain ⟨x101, e_x101, hf⟩ := hf
                                refine ax_iald dM_readPage_346 e_x101 ?_
                                replace hf := bd1_s hf
                                obtain ⟨h102, e_h102, hf⟩ := hf
                                obtain ⟨k_e_h102, e_h102⟩ := cv_s e_h102
                                refine ax_callV (As := [.int x101]) (rest := []) (c_M_close e_h102) ml_1230 cm_M_close rfl k_e_h102 (Nat.le_trans (Nat.le_of_ble_eq_true rfl) hR1) (Nat.le_trans (Nat.le_of_ble_eq_true rfl) hR2) rfl rfl (Nat.le_of_ble_eq_true rfl) dM_readPage_347 ?_
                                refine ax_goto 356 dM_readPage_350 (by decide) ?_
                                refine ax_mask [true, true, true, true, true, false] rfl [some (va_rf (some y0)), some (.int z1), some (.int z2), some (.int z3), some (.int z4), none] rfl ?_
                                cases hf
                                exact K
                              · refine ax_if_gtF 337 dM_readPage_310 (by decide) hc ?_
                                refine ax_iload (i := 5) dM_readPage_313 rfl ?_
                                refine ax_bipush (125 : Int32) dM_readPage_315 k8_125 ?_
                                replace hf := ite_c hf
                                rcases hf with ⟨hc, hf⟩ | ⟨hc, hf⟩
                                · refine ax_icmp_neF 353 dM_readPage_317 (by decide) hc ?_
                                  refine ax_iload_n (i := 1) dM_readPage_320 rfl rfl ?_
                                  replace hf := ite_c hf
                                  rcases hf with ⟨hc, hf⟩ | ⟨hc, hf⟩
                                  · refine ax_if_eqT 353 dM_readPage_321 (by decide) hc ?_
                                    refine ax_iconst (0 : Int32) dM_readPage_353 k32_0 ?_
                                    refine ax_istore (i := 4) [some (va_rf (some y0)), some (.int z1), some (.int z2), some (.int z3), some (.int (0 : Int32)), some (.int x11)] dM_readPage_354 (Nat.le_of_ble_eq_true rfl) (Or.inr (c1i rfl)) rfl ?_
                                    refine ax_mask [true, true, true, true, true, false] rfl [some (va_rf (some y0)), some (.int z1), some (.int z2), some (.int z3), some (.int (0 : Int32)), none] rfl ?_
                                    cases hf
                                    exact K
                                  · refine ax_if_eqF 353 dM_readPage_321 (by decide) hc ?_
                                    refine ax_aload_n (i := 0) (some y0) dM_readPage_324 rfl rfl ?_
                                    replace hf := bd1_s hf
                                    obtain ⟨r103, e_r103, hf⟩ := hf
                                    refine ax_getR fl_1035 rfl dM_readPage_325 e_r103 ?_
                                    refine ax_aload_n (i := 0) (some y0) dM_readPage_328 rfl rfl ?_
                                    replace hf := bd1_s hf
                                    obtain ⟨x104, e_x104, hf⟩ := hf
                                    refine ax_getI fl_1034 rfl dM_readPage_329 e_x104 ?_
                                    replace hf := bd1_s hf
                                    obtain ⟨a105, e_d, hf⟩ := hf
                                    subst e_d
                                    replace hf := bd1_s hf
                                    obtain ⟨x106, e_x106, hf⟩ := hf
                                    refine ax_iald dM_readPage_332 e_x106 ?_
                                    refine ax_iconst (2 : Int32) dM_readPage_333 k32_2 ?_
                                    replace hf := ite_c hf
                                    rcases hf with ⟨hc, hf⟩ | ⟨hc, hf⟩
                                    · refine ax_icmp_neF 353 dM_readPage_334 (by decide) hc ?_
                                      refine ax_aload_n (i := 0) (some y0) dM_readPage_337 rfl rfl ?_
                                      refine ax_aload_n (i := 0) (some y0) dM_readPage_338 rfl rfl ?_
                                      replace hf := bd1_s hf
                                      obtain ⟨r107, e_r107, hf⟩ := hf
                                      refine ax_getR fl_1035 rfl dM_readPage_339 e_r107 ?_
                                      refine ax_aload_n (i := 0) (some y0) dM_readPage_342 rfl rfl ?_
                                      replace hf := bd1_s hf
                                      obtain ⟨x108, e_x108, hf⟩ := hf
                                      refine ax_getI fl_1034 rfl dM_readPage_343 e_x108 ?_
                                      replace hf := bd1_s hf
                                      obtain ⟨a109, e_d, hf⟩ := hf
                                      subst e_d
                                      replace hf := bd1_s hf
                                      obtain ⟨x110, e_x110, hf⟩ := hf
                                      refine ax_iald dM_readPage_346 e_x110 ?_
                                      replace hf := bd1_s hf
                                      obtain ⟨h111, e_h111, hf⟩ := hf
                                      obtain ⟨k_e_h111, e_h111⟩ := cv_s e_h111
                                      refine ax_callV (As := [.int x110]) (rest := []) (c_M_close e_h111) ml_1230 cm_M_close rfl k_e_h111 (Nat.le_trans (Nat.le_of_ble_eq_true rfl) hR1) (Nat.le_trans (Nat.le_of_ble_eq_true rfl) hR2) rfl rfl (Nat.le_of_ble_eq_true rfl) dM_readPage_347 ?_
                                      refine ax_goto 356 dM_readPage_350 (by decide) ?_
                                      refine ax_mask [true, true, true, true, true, false] rfl [some (va_rf (some y0)), some (.int z1), some (.int z2), some (.int z3), some (.int z4), none] rfl ?_
                                      cases hf
                                      exact K
                                    · refine ax_icmp_neT 353 dM_readPage_334 (by decide) hc ?_
                                      refine ax_iconst (0 : Int32) dM_readPage_353 k32_0 ?_
                                      refine ax_istore (i := 4) [some (va_rf (some y0)), some (.int z1), some (.int z2), some (.int z3), some (.int (0 : Int32)), some (.int x11)] dM_readPage_354 (Nat.le_of_ble_eq_true rfl) (Or.inr (c1i rfl)) rfl ?_
                                      refine ax_mask [true, true, true, true, true, false] rfl [some (va_rf (some y0)), some (.int z1), some (.int z2), some (.int z3), some (.int (0 : Int32)), none] rfl ?_
                                      cases hf
                                      exact K
                                · refine ax_icmp_neT 353 dM_readPage_317 (by decide) hc ?_
                                  refine ax_iconst (0 : Int32) dM_readPage_353 k32_0 ?_
                                  refine ax_istore (i := 4) [some (va_rf (some y0)), some (.int z1), some (.int z2), some (.int z3), some (.int (0 : Int32)), some (.int x11)] dM_readPage_354 (Nat.le_of_ble_eq_true rfl) (Or.inr (c1i rfl)) rfl ?_
                                  refine ax_mask [true, true, true, true, true, false] rfl [some (va_rf (some y0)), some (.int z1), some (.int z2), some (.int z3), some (.int (0 : Int32)), none] rfl ?_
                                  cases hf
                                  exact K
                            · refine ax_icmp_neT 313 dM_readPage_298 (by decide) hc ?_
                              refine ax_iload (i := 5) dM_readPage_313 rfl ?_
                              refine ax_bipush (125 : Int32) dM_readPage_315 k8_125 ?_
                              replace hf := ite_c hf
                              rcases hf with ⟨hc, hf⟩ | ⟨hc, hf⟩
                              · refine ax_icmp_neF 353 dM_readPage_317 (by decide) hc ?_
                                refine ax_iload_n (i := 1) dM_readPage_320 rfl rfl ?_
                                replace hf := ite_c hf
                                rcases hf with ⟨hc, hf⟩ | ⟨hc, hf⟩
                                · refine ax_if_eqT 353 dM_readPage_321 (by decide) hc ?_
                                  refine ax_iconst (0 : Int32) dM_readPage_353 k32_0 ?_
                                  refine ax_istore (i := 4) [some (va_rf (some y0)), some (.int z1), some (.int z2), some (.int z3), some (.int (0 : Int32)), some (.int x11)] dM_readPage_354 (Nat.le_of_ble_eq_true rfl) (Or.inr (c1i rfl)) rfl ?_
                                  refine ax_mask [true, true, true, true, true, false] rfl [some (va_rf (some y0)), some (.int z1), some (.int z2), some (.int z3), some (.int (0 : Int32)), none] rfl ?_
                                  cases hf
                                  exact K
                                · refine ax_if_eqF 353 dM_readPage_321 (by decide) hc ?_
                                  refine ax_aload_n (i := 0) (some y0) dM_readPage_324 rfl rfl ?_
                                  replace hf := bd1_s hf
                                  obtain ⟨r85, e_r85, hf⟩ := hf
                                  refine ax_getR fl_1035 rfl dM_readPage_325 e_r85 ?_
                                  refine ax_aload_n (i := 0) (some y0) dM_readPage_328 rfl rfl ?_
                                  replace hf := bd1_s hf
                                  obtain ⟨x86, e_x86, hf⟩ := hf
                                  refine ax_getI fl_1034 rfl dM_readPage_329 e_x86 ?_
                                  replace hf := bd1_s hf
                                  obtain ⟨a87, e_d, hf⟩ := hf
                                  subst e_d
                                  replace hf := bd1_s hf
                                  obtain ⟨x88, e_x88, hf⟩ := hf
                                  refine ax_iald dM_readPage_332 e_x88 ?_
                                  refine ax_iconst (2 : Int32) dM_readPage_333 k32_2 ?_
                                  replace hf := ite_c hf
                                  rcases hf with ⟨hc, hf⟩ | ⟨hc, hf⟩
                                  · refine ax_icmp_neF 353 dM_readPage_334 (by decide) hc ?_
                                    refine ax_aload_n (i := 0) (some y0) dM_readPage_337 rfl rfl ?_
                                    refine ax_aload_n (i := 0) (some y0) dM_readPage_338 rfl rfl ?_
                                    replace hf := bd1_s hf
                                    obtain ⟨r89, e_r89, hf⟩ := hf
                                    refine ax_getR fl_1035 rfl dM_readPage_339 e_r89 ?_
                                    refine ax_aload_n (i := 0) (some y0) dM_readPage_342 rfl rfl ?_
                                    replace hf := bd1_s hf
                                    obtain ⟨x90, e_x90, hf⟩ := hf
                                    refine ax_getI fl_1034 rfl dM_readPage_343 e_x90 ?_
                                    replace hf := bd1_s hf
                                    obtain ⟨a91, e_d, hf⟩ := hf
                                    subst e_d
                                    replace hf := bd1_s hf
                                    obtain ⟨x92, e_x92, hf⟩ := hf
                                    refine ax_iald dM_readPage_346 e_x92 ?_
                                    replace hf := bd1_s hf
                                    obtain ⟨h93, e_h93, hf⟩ := hf
                                    obtain ⟨k_e_h93, e_h93⟩ := cv_s e_h93
                                    refine ax_callV (As := [.int x92]) (rest := []) (c_M_close e_h93) ml_1230 cm_M_close rfl k_e_h93 (Nat.le_trans (Nat.le_of_ble_eq_true rfl) hR1) (Nat.le_trans (Nat.le_of_ble_eq_true rfl) hR2) rfl rfl (Nat.le_of_ble_eq_true rfl) dM_readPage_347 ?_
                                    refine ax_goto 356 dM_readPage_350 (by decide) ?_
                                    refine ax_mask [true, true, true, true, true, false] rfl [some (va_rf (some y0)), some (.int z1), some (.int z2), some (.int z3), some (.int z4), none] rfl ?_
                                    cases hf
                                    exact K
                                  · refine ax_icmp_neT 353 dM_readPage_334 (by decide) hc ?_
                                    refine ax_iconst (0 : Int32) dM_readPage_353 k32_0 ?_
                                    refine ax_istore (i := 4) [some (va_rf (some y0)), some (.int z1), some (.int z2), some (.int z3), some (.int (0 : Int32)), some (.int x11)] dM_readPage_354 (Nat.le_of_ble_eq_true rfl) (Or.inr (c1i rfl)) rfl ?_
                                    refine ax_mask [true, true, true, true, true, false] rfl [some (va_rf (some y0)), some (.int z1), some (.int z2), some (.int z3), some (.int (0 : Int32)), none] rfl ?_
                                    cases hf
                                    exact K
                              · refine ax_icmp_neT 353 dM_readPage_317 (by decide) hc ?_
                                refine ax_iconst (0 : Int32) dM_readPage_353 k32_0 ?_
                                refine ax_istore (i := 4) [some (va_rf (some y0)), some (.int z1), some (.int z2), some (.int z3), some (.int (0 : Int32)), some (.int x11)] dM_readPage_354 (Nat.le_of_ble_eq_true rfl) (Or.inr (c1i rfl)) rfl ?_
                                refine ax_mask [true, true, true, true, true, false] rfl [some (va_rf (some y0)), some (.int z1), some (.int z2), some (.int z3), some (.int (0 : Int32)), none] rfl ?_
                                cases hf
                                exact K
                        · refine ax_icmp_neT 313 dM_readPage_281 (by decide) hc ?_
                          refine ax_iload (i := 5) dM_readPage_313 rfl ?_
                          refine ax_bipush (125 : Int32) dM_readPage_315 k8_125 ?_
                          replace hf := ite_c hf
                          rcases hf with ⟨hc, hf⟩ | ⟨hc, hf⟩
                          · refine ax_icmp_neF 353 dM_readPage_317 (by decide) hc ?_
                            refine ax_iload_n (i := 1) dM_readPage_320 rfl rfl ?_
                            replace hf := ite_c hf
                            rcases hf with ⟨hc, hf⟩ | ⟨hc, hf⟩
                            · refine ax_if_eqT 353 dM_readPage_321 (by decide) hc ?_
                              refine ax_iconst (0 : Int32) dM_readPage_353 k32_0 ?_
                              refine ax_istore (i := 4) [some (va_rf (some y0)), some (.int z1), some (.int z2), some (.int z3), some (.int (0 : Int32)), some (.int x11)] dM_readPage_354 (Nat.le_of_ble_eq_true rfl) (Or.inr (c1i rfl)) rfl ?_
                              refine ax_mask [true, true, true, true, true, false] rfl [some (va_rf (some y0)), some (.int z1), some (.int z2), some (.int z3), some (.int (0 : Int32)), none] rfl ?_
                              cases hf
                              exact K
                            · refine ax_if_eqF 353 dM_readPage_321 (by decide) hc ?_
                              refine ax_aload_n (i := 0) (some y0) dM_readPage_324 rfl rfl ?_
                              replace hf := bd1_s hf
                              obtain ⟨r63, e_r63, hf⟩ := hf
                              refine ax_getR fl_1035 rfl dM_readPage_325 e_r63 ?_
                              refine ax_aload_n (i := 0) (some y0) dM_readPage_328 rfl rfl ?_
                              replace hf := bd1_s hf
                              obtain ⟨x64, e_x64, hf⟩ := hf
                              refine ax_getI fl_1034 rfl dM_readPage_329 e_x64 ?_
                              replace hf := bd1_s hf
                              obtain ⟨a65, e_d, hf⟩ := hf
                              subst e_d
                              replace hf := bd1_s hf
                              obtain ⟨x66, e_x66, hf⟩ := hf
                              refine ax_iald dM_readPage_332 e_x66 ?_
                              refine ax_iconst (2 : Int32) dM_readPage_333 k32_2 ?_
                              replace hf := ite_c hf
                              rcases hf with ⟨hc, hf⟩ | ⟨hc, hf⟩
                              · refine ax_icmp_neF 353 dM_readPage_334 (by decide) hc ?_
                                refine ax_aload_n (i := 0) (some y0) dM_readPage_337 rfl rfl ?_
                                refine ax_aload_n (i := 0) (some y0) dM_readPage_338 rfl rfl ?_
                                replace hf := bd1_s hf
                                obtain ⟨r67, e_r67, hf⟩ := hf
                                refine ax_getR fl_1035 rfl dM_readPage_339 e_r67 ?_
                                refine ax_aload_n (i := 0) (some y0) dM_readPage_342 rfl rfl ?_
                                replace hf := bd1_s hf
                                obtain ⟨x68, e_x68, hf⟩ := hf
                                refine ax_getI fl_1034 rfl dM_readPage_343 e_x68 ?_
                                replace hf := bd1_s hf
                                obtain ⟨a69, e_d, hf⟩ := hf
                                subst e_d
                                replace hf := bd1_s hf
                                obtain ⟨x70, e_x70, hf⟩ := hf
                                refine ax_iald dM_readPage_346 e_x70 ?_
                                replace hf := bd1_s hf
                                obtain ⟨h71, e_h71, hf⟩ := hf
                                obtain ⟨k_e_h71, e_h71⟩ := cv_s e_h71
                                refine ax_callV (As := [.int x70]) (rest := []) (c_M_close e_h71) ml_1230 cm_M_close rfl k_e_h71 (Nat.le_trans (Nat.le_of_ble_eq_true rfl) hR1) (Nat.le_trans (Nat.le_of_ble_eq_true rfl) hR2) rfl rfl (Nat.le_of_ble_eq_true rfl) dM_readPage_347 ?_
                                refine ax_goto 356 dM_readPage_350 (by decide) ?_
                                refine ax_mask [true, true, true, true, true, false] rfl [some (va_rf (some y0)), some (.int z1), some (.int z2), some (.int z3), some (.int z4), none] rfl ?_
                                cases hf
                                exact K
                              · refine ax_icmp_neT 353 dM_readPage_334 (by decide) hc ?_
                                refine ax_iconst (0 : Int32) dM_readPage_353 k32_0 ?_
                                refine ax_istore (i := 4) [some (va_rf (some y0)), some (.int z1), some (.int z2), some (.int z3), some (.int (0 : Int32)), some (.int x11)] dM_readPage_354 (Nat.le_of_ble_eq_true rfl) (Or.inr (c1i rfl)) rfl ?_
                                refine ax_mask [true, true, true, true, true, false] rfl [some (va_rf (some y0)), some (.int z1), some (.int z2), some (.int z3), some (.int (0 : Int32)), none] rfl ?_
                                cases hf
                                exact K
                          · refine ax_icmp_neT 353 dM_readPage_317 (by decide) hc ?_
                            refine ax_iconst (0 : Int32) dM_readPage_353 k32_0 ?_
                            refine ax_istore (i := 4) [some (va_rf (some y0)), some (.int z1), some (.int z2), some (.int z3), some (.int (0 : Int32)), some (.int x11)] dM_readPage_354 (Nat.le_of_ble_eq_true rfl) (Or.inr (c1i rfl)) rfl ?_
                            refine ax_mask [true, true, true, true, true, false] rfl [some (va_rf (some y0)), some (.int z1), some (.int z2), some (.int z3), some (.int (0 : Int32)), none] rfl ?_
                            cases hf
                            exact K
                      · refine ax_if_eqF 277 dM_readPage_235 (by decide) hc ?_
                        refine ax_aload_n (i := 0) (some y0) dM_readPage_238 rfl rfl ?_
                        replace hf := bd1_s hf
                        obtain ⟨r112, e_r112, hf⟩ := hf
                        refine ax_getR fl_1035 rfl dM_readPage_239 e_r112 ?_
                        refine ax_aload_n (i := 0) (some y0) dM_readPage_242 rfl rfl ?_
                        replace hf := bd1_s hf
                        obtain ⟨x113, e_x113, hf⟩ := hf
                        refine ax_getI fl_1034 rfl dM_readPage_243 e_x113 ?_
                        replace hf := bd1_s hf
                        obtain ⟨a114, e_d, hf⟩ := hf
                        subst e_d
                        replace hf := bd1_s hf
                        obtain ⟨x115, e_x115, hf⟩ := hf
                        refine ax_iald dM_readPage_246 e_x115 ?_
                        refine ax_iconst (1 : Int32) dM_readPage_247 k32_1 ?_
                        replace hf := ite_c hf
                        rcases hf with ⟨hc, hf⟩ | ⟨hc, hf⟩
                        · refine ax_icmp_neF 277 dM_readPage_248 (by decide) hc ?_
                          refine ax_aload_n (i := 0) (some y0) dM_readPage_251 rfl rfl ?_
                          replace hf := bd1_s hf
                          obtain ⟨h165, e_h165, hf⟩ := hf
                          obtain ⟨k_e_h165, e_h165⟩ := cv_s e_h165
                          refine ax_callV (As := []) (rest := []) (c_M_gather e_h165) ml_1226 cm_M_gather rfl k_e_h165 (Nat.le_trans (Nat.le_of_ble_eq_true rfl) hR1) (Nat.le_trans (Nat.le_of_ble_eq_true rfl) hR2) rfl rfl (Nat.le_of_ble_eq_true rfl) dM_readPage_252 ?_
                          refine ax_aload_n (i := 0) (some y0) dM_readPage_255 rfl rfl ?_
                          replace hf := bd1_s hf
                          obtain ⟨r166, e_r166, hf⟩ := hf
                          refine ax_getR fl_1036 rfl dM_readPage_256 e_r166 ?_
                          refine ax_aload_n (i := 0) (some y0) dM_readPage_259 rfl rfl ?_
                          replace hf := bd1_s hf
                          obtain ⟨x167, e_x167, hf⟩ := hf
                          refine ax_getI fl_1034 rfl dM_readPage_260 e_x167 ?_
                          refine ax_dup2 dM_readPage_263 rfl (cat_rf _) ?_
                          replace hf := bd1_s hf
                          obtain ⟨a168, e_d, hf⟩ := hf
                          subst e_d
                          replace hf := bd1_s hf
                          obtain ⟨x169, e_x169, hf⟩ := hf
                          refine ax_iald dM_readPage_264 e_x169 ?_
                          refine ax_iconst (1 : Int32) dM_readPage_265 k32_1 ?_
                          refine ax_iadd dM_readPage_266 ?_
                          replace hf := bd1_s hf
                          obtain ⟨h170, e_h170, hf⟩ := hf
                          refine ax_iast dM_readPage_267 e_h170 ?_
                          refine ax_aload_n (i := 0) (some y0) dM_readPage_268 rfl rfl ?_
                          replace hf := bd1_s hf
                          obtain ⟨h171, e_h171, hf⟩ := hf
                          obtain ⟨k_e_h171, e_h171⟩ := cv_s e_h171
                          refine ax_callV (As := []) (rest := []) (c_M_fresh e_h171) ml_1211 cm_M_fresh rfl k_e_h171 (Nat.le_trans (Nat.le_of_ble_eq_true rfl) hR1) (Nat.le_trans (Nat.le_of_ble_eq_true rfl) hR2) rfl rfl (Nat.le_of_ble_eq_true rfl) dM_readPage_269 ?_
                          refine ax_iconst (0 : Int32) dM_readPage_272 k32_0 ?_
                          refine ax_istore_n (i := 1) [some (va_rf (some y0)), some (.int (0 : Int32)), some (.int z2), some (.int z3), some (.int z4), some (.int x11)] dM_readPage_273 rfl (Nat.le_of_ble_eq_true rfl) (Or.inr (c1r rfl)) rfl ?_
                          refine ax_goto 356 dM_readPage_274 (by decide) ?_
                          refine ax_mask [true, true, true, true, true, false] rfl [some (va_rf (some y0)), some (.int (0 : Int32)), some (.int z2), some (.int z3), some (.int z4), none] rfl ?_
                          cases hf
                          exact K
                        · refine ax_icmp_neT 277 dM_readPage_248 (by decide) hc ?_
                          refine ax_iload (i := 5) dM_readPage_277 rfl ?_
                          refine ax_bipush (41 : Int32) dM_readPage_279 k8_41 ?_
                          replace hf := ite_c hf
                          rcases hf with ⟨hc, hf⟩ | ⟨hc, hf⟩
                          · refine ax_icmp_neF 313 dM_readPage_281 (by decide) hc ?_
                            refine ax_iload_n (i := 1) dM_readPage_284 rfl rfl ?_
                            replace hf := ite_c hf
                            rcases hf with ⟨hc, hf⟩ | ⟨hc, hf⟩
                            · refine ax_if_eqT 313 dM_readPage_285 (by decide) hc ?_
                              refine ax_iload (i := 5) dM_readPage_313 rfl ?_
                              refine ax_bipush (125 : Int32) dM_readPage_315 k8_125 ?_
                              replace hf := ite_c hf
                              rcases hf with ⟨hc, hf⟩ | ⟨hc, hf⟩
                              · refine ax_icmp_neF 353 dM_readPage_317 (by decide) hc ?_
                                refine ax_iload_n (i := 1) dM_readPage_320 rfl rfl ?_
                                replace hf := ite_c hf
                                rcases hf with ⟨hc, hf⟩ | ⟨hc, hf⟩
                                · refine ax_if_eqT 353 dM_readPage_321 (by decide) hc ?_
                                  refine ax_iconst (0 : Int32) dM_readPage_353 k32_0 ?_
                                  refine ax_istore (i := 4) [some (va_rf (some y0)), some (.int z1), some (.int z2), some (.int z3), some (.int (0 : Int32)), some (.int x11)] dM_readPage_354 (Nat.le_of_ble_eq_true rfl) (Or.inr (c1i rfl)) rfl ?_
                                  refine ax_mask [true, true, true, true, true, false] rfl [some (va_rf (some y0)), some (.int z1), some (.int z2), some (.int z3), some (.int (0 : Int32)), none] rfl ?_
                                  cases hf
                                  exact K
                                · refine ax_if_eqF 353 dM_readPage_321 (by decide) hc ?_
                                  refine ax_aload_n (i := 0) (some y0) dM_readPage_324 rfl rfl ?_
                                  replace hf := bd1_s hf
                                  obtain ⟨r125, e_r125, hf⟩ := hf
                                  refine ax_getR fl_1035 rfl dM_readPage_325 e_r125 ?_
                                  refine ax_aload_n (i := 0) (some y0) dM_readPage_328 rfl rfl ?_
                                  replace hf := bd1_s hf
                                  obtain ⟨x126, e_x126, hf⟩ := hf
                                  refine ax_getI fl_1034 rfl dM_readPage_329 e_x126 ?_
                                  replace hf := bd1_s hf
                                  obtain ⟨a127, e_d, hf⟩ := hf
                                  subst e_d
                                  replace hf := bd1_s hf
                                  obtain ⟨x128, e_x128, hf⟩ := hf
                                  refine ax_iald dM_readPage_332 e_x128 ?_
                                  refine ax_iconst (2 : Int32) dM_readPage_333 k32_2 ?_
                                  replace hf := ite_c hf
                                  rcases hf with ⟨hc, hf⟩ | ⟨hc, hf⟩
                                  · refine ax_icmp_neF 353 dM_readPage_334 (by decide) hc ?_
                                    refine ax_aload_n (i := 0) (some y0) dM_readPage_337 rfl rfl ?_
                                    refine ax_aload_n (i := 0) (some y0) dM_readPage_338 rfl rfl ?_
                                    replace hf := bd1_s hf
                                    obtain ⟨r129, e_r129, hf⟩ := hf
                                    refine ax_getR fl_1035 rfl dM_readPage_339 e_r129 ?_
                                    refine ax_aload_n (i := 0) (some y0) dM_readPage_342 rfl rfl ?_
                                    replace hf := bd1_s hf
                                    obtain ⟨x130, e_x130, hf⟩ := hf
                                    refine ax_getI fl_1034 rfl dM_readPage_343 e_x130 ?_
                                    replace hf := bd1_s hf
                                    obtain ⟨a131, e_d, hf⟩ := hf
                                    subst e_d
                                    replace hf := bd1_s hf
                                    obtain ⟨x132, e_x132, hf⟩ := hf
                                    refine ax_iald dM_readPage_346 e_x132 ?_
                                    replace hf := bd1_s hf
                                    obtain ⟨h133, e_h133, hf⟩ := hf
                                    obtain ⟨k_e_h133, e_h133⟩ := cv_s e_h133
                                    refine ax_callV (As := [.int x132]) (rest := []) (c_M_close e_h133) ml_1230 cm_M_close rfl k_e_h133 (Nat.le_trans (Nat.le_of_ble_eq_true rfl) hR1) (Nat.le_trans (Nat.le_of_ble_eq_true rfl) hR2) rfl rfl (Nat.le_of_ble_eq_true rfl) dM_readPage_347 ?_
                                    refine ax_goto 356 dM_readPage_350 (by decide) ?_
                                    refine ax_mask [true, true, true, true, true, false] rfl [some (va_rf (some y0)), some (.int z1), some (.int z2), some (.int z3), some (.int z4), none] rfl ?_
                                    cases hf
                                    exact K
                                  · refine ax_icmp_neT 353 dM_readPage_334 (by decide) hc ?_
                                    refine ax_iconst (0 : Int32) dM_readPage_353 k32_0 ?_
                                    refine ax_istore (i := 4) [some (va_rf (some y0)), some (.int z1), some (.int z2), some (.int z3), some (.int (0 : Int32)), some (.int x11)] dM_readPage_354 (Nat.le_of_ble_eq_true rfl) (Or.inr (c1i rfl)) rfl ?_
                                    refine ax_mask [true, true, true, true, true, false] rfl [some (va_rf (some y0)), some (.int z1), some (.int z2), some (.int z3), some (.int (0 : Int32)), none] rfl ?_
                                    cases hf
                                    exact K
                              · refine ax_icmp_neT 353 dM_readPage_317 (by decide) hc ?_
                                refine ax_iconst (0 : Int32) dM_readPage_353 k32_0 ?_
                                refine ax_istore (i := 4) [some (va_rf (some y0)), some (.int z1), some (.int z2), some (.int z3), some (.int (0 : Int32)), some (.int x11)] dM_readPage_354 (Nat.le_of_ble_eq_true rfl) (Or.inr (c1i rfl)) rfl ?_
                                refine ax_mask [true, true, true, true, true, false] rfl [some (va_rf (some y0)), some (.int z1), some (.int z2), some (.int z3), some (.int (0 : Int32)), none] rfl ?_
                                cases hf
                                exact K
                            · refine ax_if_eqF 313 dM_readPage_285 (by decide) hc ?_
                              refine ax_aload_n (i := 0) (some y0) dM_readPage_288 rfl rfl ?_
                              replace hf := bd1_s hf
                              obtain ⟨r134, e_r134, hf⟩ := hf
                              refine ax_getR fl_1035 rfl dM_readPage_289 e_r134 ?_
                              refine ax_aload_n (i := 0) (some y0) dM_readPage_292 rfl rfl ?_
                              replace hf := bd1_s hf
                              obtain ⟨x135, e_x135, hf⟩ := hf
                              refine ax_getI fl_1034 rfl dM_readPage_293 e_x135 ?_
                              replace hf := bd1_s hf
                              obtain ⟨a136, e_d, hf⟩ := hf
                              subst e_d
                              replace hf := bd1_s hf
                              obtain ⟨x137, e_x137, hf⟩ := hf
                              refine ax_iald dM_readPage_296 e_x137 ?_
                              refine ax_iconst (1 : Int32) dM_readPage_297 k32_1 ?_
                              replace hf := ite_c hf
                              rcases hf with ⟨hc, hf⟩ | ⟨hc, hf⟩
                              · refine ax_icmp_neF 313 dM_readPage_298 (by decide) hc ?_
                                refine ax_aload_n (i := 0) (some y0) dM_readPage_301 rfl rfl ?_
                                replace hf := bd1_s hf
                                obtain ⟨r147, e_r147, hf⟩ := hf
                                refine ax_getR fl_1036 rfl dM_readPage_302 e_r147 ?_
                                refine ax_aload_n (i := 0) (some y0) dM_readPage_305 rfl rfl ?_
                                replace hf := bd1_s hf
                                obtain ⟨x148, e_x148, hf⟩ := hf
                                refine ax_getI fl_1034 rfl dM_readPage_306 e_x148 ?_
                                replace hf := bd1_s hf
                                obtain ⟨a149, e_d, hf⟩ := hf
                                subst e_d
                                replace hf := bd1_s hf
                                obtain ⟨x150, e_x150, hf⟩ := hf
                                refine ax_iald dM_readPage_309 e_x150 ?_
                                replace hf := ite_c hf
                                rcases hf with ⟨hc, hf⟩ | ⟨hc, hf⟩
                                · refine ax_if_gtT 337 dM_readPage_310 (by decide) hc ?_
                                  refine ax_aload_n (i := 0) (some y0) dM_readPage_337 rfl rfl ?_
                                  refine ax_aload_n (i := 0) (some y0) dM_readPage_338 rfl rfl ?_
                                  replace hf := bd1_s hf
                                  obtain ⟨r151, e_r151, hf⟩ := hf
                                  refine ax_getR fl_1035 rfl dM_readPage_339 e_r151 ?_
                                  refine ax_aload_n (i := 0) (some y0) dM_readPage_342 rfl rfl ?_
                                  replace hf := bd1_s hf
                                  obtain ⟨x152, e_x152, hf⟩ := hf
                                  refine ax_getI fl_1034 rfl dM_readPage_343 e_x152 ?_
                                  replace hf := bd1_s hf
                                  obtain ⟨a153, e_d, hf⟩ := hf
                                  subst e_d
                                  replace hf := bd1_s hf
                                  obtain ⟨x154, e_x154, hf⟩ := hf
                                  refine ax_iald dM_readPage_346 e_x154 ?_
                                  replace hf := bd1_s hf
                                  obtain ⟨h155, e_h155, hf⟩ := hf
                                  obtain ⟨k_e_h155, e_h155⟩ := cv_s e_h155
                                  refine ax_callV (As := [.int x154]) (rest := []) (c_M_close e_h155) ml_1230 cm_M_close rfl k_e_h155 (Nat.le_trans (Nat.le_of_ble_eq_true rfl) hR1) (Nat.le_trans (Nat.le_of_ble_eq_true rfl) hR2) rfl rfl (Nat.le_of_ble_eq_true rfl) dM_readPage_347 ?_
                                  refine ax_goto 356 dM_readPage_350 (by decide) ?_
                                  refine ax_mask [true, true, true, true, true, false] rfl [some (va_rf (some y0)), some (.int z1), some (.int z2), some (.int z3), some (.int z4), none] rfl ?_
                                  cases hf
                                  exact K
                                · refine ax_if_gtF 337 dM_readPage_310 (by decide) hc ?_
                                  refine ax_iload (i := 5) dM_readPage_313 rfl ?_
                                  refine ax_bipush (125 : Int32) dM_readPage_315 k8_125 ?_
                                  replace hf := ite_c hf
                                  rcases hf with ⟨hc, hf⟩ | ⟨hc, hf⟩
                                  · refine ax_icmp_neF 353 dM_readPage_317 (by decide) hc ?_
                                    refine ax_iload_n (i := 1) dM_readPage_320 rfl rfl ?_
                                    replace hf := ite_c hf
                                    rcases hf with ⟨hc, hf⟩ | ⟨hc, hf⟩
                                    · refine ax_if_eqT 353 dM_readPage_321 (by decide) hc ?_
                                      refine ax_iconst (0 : Int32) dM_readPage_353 k32_0 ?_
                                      refine ax_istore (i := 4) [some (va_rf (some y0)), some (.int z1), some (.int z2), some (.int z3), some (.int (0 : Int32)), some (.int x11)] dM_readPage_354 (Nat.le_of_ble_eq_true rfl) (Or.inr (c1i rfl)) rfl ?_
                                      refine ax_mask [true, true, true, true, true, false] rfl [some (va_rf (some y0)), some (.int z1), some (.int z2), some (.int z3), some (.int (0 : Int32)), none] rfl ?_
                                      cases hf
                                      exact K
                                    · refine ax_if_eqF 353 dM_readPage_321 (by decide) hc ?_
                                      refine ax_aload_n (i := 0) (some y0) dM_readPage_324 rfl rfl ?_
                                      replace hf := bd1_s hf
                                      obtain ⟨r156, e_r156, hf⟩ := hf
                                      refine ax_getR fl_1035 rfl dM_readPage_325 e_r156 ?_
                                      refine ax_aload_n (i := 0) (some y0) dM_readPage_328 rfl rfl ?_
                                      replace hf := bd1_s hf
                                      obtain ⟨x157, e_x157, hf⟩ := hf
                                      refine ax_getI fl_1034 rfl dM_readPage_329 e_x157 ?_
                                      replace hf := bd1_s hf
                                      obtain ⟨a158, e_d, hf⟩ := hf
                                      subst e_d
                                      replace hf := bd1_s hf
                                      obtain ⟨x159, e_x159, hf⟩ := hf
                                      refine ax_iald dM_readPage_332 e_x159 ?_
                                      refine ax_iconst (2 : Int32) dM_readPage_333 k32_2 ?_
                                      replace hf := ite_c hf
                                      rcases hf with ⟨hc, hf⟩ | ⟨hc, hf⟩
                                      · refine ax_icmp_neF 353 dM_readPage_334 (by decide) hc ?_
                                        refine ax_aload_n (i := 0) (some y0) dM_readPage_337 rfl rfl ?_
                                        refine ax_aload_n (i := 0) (some y0) dM_readPage_338 rfl rfl ?_
                                        replace hf := bd1_s hf
                                        obtain ⟨r160, e_r160, hf⟩ := hf
                                        refine ax_getR fl_1035 rfl dM_readPage_339 e_r160 ?_
                                        refine ax_aload_n (i := 0) (some y0) dM_readPage_342 rfl rfl ?_
                                        replace hf := bd1_s hf
                                        obtain ⟨x161, e_x161, hf⟩ := hf
                                        refine ax_getI fl_1034 rfl dM_readPage_343 e_x161 ?_
                                        replace hf := bd1_s hf
                                        obtain ⟨a162, e_d, hf⟩ := hf
                                        subst e_d
                                        replace hf := bd1_s hf
                                        obtain ⟨x163, e_x163, hf⟩ := hf
                                        refine ax_iald dM_readPage_346 e_x163 ?_
                                        replace hf := bd1_s hf
                                        obtain ⟨h164, e_h164, hf⟩ := hf
                                        obtain ⟨k_e_h164, e_h164⟩ := cv_s e_h164
                                        refine ax_callV (As := [.int x163]) (rest := []) (c_M_close e_h164) ml_1230 cm_M_close rfl k_e_h164 (Nat.le_trans (Nat.le_of_ble_eq_true rfl) hR1) (Nat.le_trans (Nat.le_of_ble_eq_true rfl) hR2) rfl rfl (Nat.le_of_ble_eq_true rfl) dM_readPage_347 ?_
                                        refine ax_goto 356 dM_readPage_350 (by decide) ?_
                                        refine ax_mask [true, true, true, true, true, false] rfl [some (va_rf (some y0)), some (.int z1), some (.int z2), some (.int z3), some (.int z4), none] rfl ?_
                                        cases hf
                                        exact K
                                      · refine ax_icmp_neT 353 dM_readPage_334 (by decide) hc ?_
                                        refine ax_iconst (0 : Int32) dM_readPage_353 k32_0 ?_
                                        refine ax_istore (i := 4) [some (va_rf (some y0)), some (.int z1), some (.int z2), some (.int z3), some (.int (0 : Int32)), some (.int x11)] dM_readPage_354 (Nat.le_of_ble_eq_true rfl) (Or.inr (c1i rfl)) rfl ?_
                                        refine ax_mask [true, true, true, true, true, false] rfl [some (va_rf (some y0)), some (.int z1), some (.int z2), some (.int z3), some (.int (0 : Int32)), none] rfl ?_
                                        cases hf
                                        exact K
                                  · refine ax_icmp_neT 353 dM_readPage_317 (by decide) hc ?_
                                    refine ax_iconst (0 : Int32) dM_readPage_353 k32_0 ?_
                                    refine ax_istore (i := 4) [some (va_rf (some y0)), some (.int z1), some (.int z2), some (.int z3), some (.int (0 : Int32)), some (.int x11)] dM_readPage_354 (Nat.le_of_ble_eq_true rfl) (Or.inr (c1i rfl)) rfl ?_
                                    refine ax_mask [true, true, true, true, true, false] rfl [some (va_rf (some y0)), some (.int z1), some (.int z2), some (.int z3), some (.int (0 : Int32)), none] rfl ?_
                                    cases hf
                                    exact K
                              · refine ax_icmp_neT 313 dM_readPage_298 (by decide) hc ?_
                                refine ax_iload (i := 5) dM_readPage_313 rfl ?_
                                refine ax_bipush (125 : Int32) dM_readPage_315 k8_125 ?_
                                replace hf := ite_c hf
                                rcases hf with ⟨hc, hf⟩ | ⟨hc, hf⟩
                                · refine ax_icmp_neF 353 dM_readPage_317 (by decide) hc ?_
                                  refine ax_iload_n (i := 1) dM_readPage_320 rfl rfl ?_
                                  replace hf := ite_c hf
                                  rcases hf with ⟨hc, hf⟩ | ⟨hc, hf⟩
                                  · refine ax_if_eqT 353 dM_readPage_321 (by decide) hc ?_
                                    refine ax_iconst (0 : Int32) dM_readPage_353 k32_0 ?_
                                    refine ax_istore (i := 4) [some (va_rf (some y0)), some (.int z1), some (.int z2), some (.int z3), some (.int (0 : Int32)), some (.int x11)] dM_readPage_354 (Nat.le_of_ble_eq_true rfl) (Or.inr (c1i rfl)) rfl ?_
                                    refine ax_mask [true, true, true, true, true, false] rfl [some (va_rf (some y0)), some (.int z1), some (.int z2), some (.int z3), some (.int (0 : Int32)), none] rfl ?_
                                    cases hf
                                    exact K
                                  · refine ax_if_eqF 353 dM_readPage_321 (by decide) hc ?_
                                    refine ax_aload_n (i := 0) (some y0) dM_readPage_324 rfl rfl ?_
                                    replace hf := bd1_s hf
                                    obtain ⟨r138, e_r138, hf⟩ := hf
                                    refine ax_getR fl_1035 rfl dM_readPage_325 e_r138 ?_
                                    refine ax_aload_n (i := 0) (some y0) dM_readPage_328 rfl rfl ?_
                                    replace hf := bd1_s hf
                                    obtain ⟨x139, e_x139, hf⟩ := hf
                                    refine ax_getI fl_1034 rfl dM_readPage_329 e_x139 ?_
                                    replace hf := bd1_s hf
                                    obtain ⟨a140, e_d, hf⟩ := hf
                                    subst e_d
                                    replace hf := bd1_s hf
                                    obtain ⟨x141, e_x141, hf⟩ := hf
                                    refine ax_iald dM_readPage_332 e_x141 ?_
                                    refine ax_iconst (2 : Int32) dM_readPage_333 k32_2 ?_
                                    replace hf := ite_c hf
                                    rcases hf with ⟨hc, hf⟩ | ⟨hc, hf⟩
                                    · refine ax_icmp_neF 353 dM_readPage_334 (by decide) hc ?_
                                      refine ax_aload_n (i := 0) (some y0) dM_readPage_337 rfl rfl ?_
                                      refine ax_aload_n (i := 0) (some y0) dM_readPage_338 rfl rfl ?_
                                      replace hf := bd1_s hf
                                      obtain ⟨r142, e_r142, hf⟩ := hf
                                      refine ax_getR fl_1035 rfl dM_readPage_339 e_r142 ?_
                                      refine ax_aload_n (i := 0) (some y0) dM_readPage_342 rfl rfl ?_
                                      replace hf := bd1_s hf
                                      obtain ⟨x143, e_x143, hf⟩ := hf
                                      refine ax_getI fl_1034 rfl dM_readPage_343 e_x143 ?_
                                      replace hf := bd1_s hf
                                      obtain ⟨a144, e_d, hf⟩ := hf
                                      subst e_d
                                      replace hf := bd1_s hf
                                      obtain ⟨x145, e_x145, hf⟩ := hf
                                      refine ax_iald dM_readPage_346 e_x145 ?_
                                      replace hf := bd1_s hf
                                      obtain ⟨h146, e_h146, hf⟩ := hf
                                      obtain ⟨k_e_h146, e_h146⟩ := cv_s e_h146
                                      refine ax_callV (As := [.int x145]) (rest := []) (c_M_close e_h146) ml_1230 cm_M_close rfl k_e_h146 (Nat.le_trans (Nat.le_of_ble_eq_true rfl) hR1) (Nat.le_trans (Nat.le_of_ble_eq_true rfl) hR2) rfl rfl (Nat.le_of_ble_eq_true rfl) dM_readPage_347 ?_
                                      refine ax_goto 356 dM_readPage_350 (by decide) ?_
                                      refine ax_mask [true, true, true, true, true, false] rfl [some (va_rf (some y0)), some (.int z1), some (.int z2), some (.int z3), some (.int z4), none] rfl ?_
                                      cases hf
                                      exact K
                                    · refine ax_icmp_neT 353 dM_readPage_334 (by decide) hc ?_
                                      refine ax_iconst (0 : Int32) dM_readPage_353 k32_0 ?_
                                      refine ax_istore (i := 4) [some (va_rf (some y0)), some (.int z1), some (.int z2), some (.int z3), some (.int (0 : Int32)), some (.int x11)] dM_readPage_354 (Nat.le_of_ble_eq_true rfl) (Or.inr (c1i rfl)) rfl ?_
                                      refine ax_mask [true, true, true, true, true, false] rfl [some (va_rf (some y0)), some (.int z1), some (.int z2), some (.int z3), some (.int (0 : Int32)), none] rfl ?_
                                      cases hf
                                      exact K
                                · refine ax_icmp_neT 353 dM_readPage_317 (by decide) hc ?_
                                  refine ax_iconst (0 : Int32) dM_readPage_353 k32_0 ?_
                                  refine ax_istore (i := 4) [some (va_rf (some y0)), some (.int z1), some (.int z2), some (.int z3), some (.int (0 : Int32)), some (.int x11)] dM_readPage_354 (Nat.le_of_ble_eq_true rfl) (Or.inr (c1i rfl)) rfl ?_
                                  refine ax_mask [true, true, true, true, true, false] rfl [some (va_rf (some y0)), some (.int z1), some (.int z2), some (.int z3), some (.int (0 : Int32)), none] rfl ?_
                                  cases hf
                                  exact K
                          · refine ax_icmp_neT 313 dM_readPage_281 (by decide) hc ?_
                            refine ax_iload (i := 5) dM_readPage_313 rfl ?_
                            refine ax_bipush (125 : Int32) dM_readPage_315 k8_125 ?_
                            replace hf := ite_c hf
                            rcases hf with ⟨hc, hf⟩ | ⟨hc, hf⟩
                            · refine ax_icmp_neF 353 dM_readPage_317 (by decide) hc ?_
                              refine ax_iload_n (i := 1) dM_readPage_320 rfl rfl ?_
                              replace hf := ite_c hf
                              rcases hf with ⟨hc, hf⟩ | ⟨hc, hf⟩
                              · refine ax_if_eqT 353 dM_readPage_321 (by decide) hc ?_
                                refine ax_iconst (0 : Int32) dM_readPage_353 k32_0 ?_
                                refine ax_istore (i := 4) [some (va_rf (some y0)), some (.int z1), some (.int z2), some (.int z3), some (.int (0 : Int32)), some (.int x11)] dM_readPage_354 (Nat.le_of_ble_eq_true rfl) (Or.inr (c1i rfl)) rfl ?_
                                refine ax_mask [true, true, true, true, true, false] rfl [some (va_rf (some y0)), some (.int z1), some (.int z2), some (.int z3), some (.int (0 : Int32)), none] rfl ?_
                                cases hf
                                exact K
                              · refine ax_if_eqF 353 dM_readPage_321 (by decide) hc ?_
                                refine ax_aload_n (i := 0) (some y0) dM_readPage_324 rfl rfl ?_
                                replace hf := bd1_s hf
                                obtain ⟨r116, e_r116, hf⟩ := hf
                                refine ax_getR fl_1035 rfl dM_readPage_325 e_r116 ?_
                                refine ax_aload_n (i := 0) (some y0) dM_readPage_328 rfl rfl ?_
                                replace hf := bd1_s hf
                                obtain ⟨x117, e_x117, hf⟩ := hf
                                refine ax_getI fl_1034 rfl dM_readPage_329 e_x117 ?_
                                replace hf := bd1_s hf
                                obtain ⟨a118, e_d, hf⟩ := hf
                                subst e_d
                                replace hf := bd1_s hf
                                obtain ⟨x119, e_x119, hf⟩ := hf
                                refine ax_iald dM_readPage_332 e_x119 ?_
                                refine ax_iconst (2 : Int32) dM_readPage_333 k32_2 ?_
                                replace hf := ite_c hf
                                rcases hf with ⟨hc, hf⟩ | ⟨hc, hf⟩
                                · refine ax_icmp_neF 353 dM_readPage_334 (by decide) hc ?_
                                  refine ax_aload_n (i := 0) (some y0) dM_readPage_337 rfl rfl ?_
                                  refine ax_aload_n (i := 0) (some y0) dM_readPage_338 rfl rfl ?_
                                  replace hf := bd1_s hf
                                  obtain ⟨r120, e_r120, hf⟩ := hf
                                  refine ax_getR fl_1035 rfl dM_readPage_339 e_r120 ?_
                                  refine ax_aload_n (i := 0) (some y0) dM_readPage_342 rfl rfl ?_
                                  replace hf := bd1_s hf
                                  obtain ⟨x121, e_x121, hf⟩ := hf
                                  refine ax_getI fl_1034 rfl dM_readPage_343 e_x121 ?_
                                  replace hf := bd1_s hf
                                  obtain ⟨a122, e_d, hf⟩ := hf
                                  subst e_d
                                  replace hf := bd1_s hf
                                  obtain ⟨x123, e_x123, hf⟩ := hf
                                  refine ax_iald dM_readPage_346 e_x123 ?_
                                  replace hf := bd1_s hf
                                  obtain ⟨h124, e_h124, hf⟩ := hf
                                  obtain ⟨k_e_h124, e_h124⟩ := cv_s e_h124
                                  refine ax_callV (As := [.int x123]) (rest := []) (c_M_close e_h124) ml_1230 cm_M_close rfl k_e_h124 (Nat.le_trans (Nat.le_of_ble_eq_true rfl) hR1) (Nat.le_trans (Nat.le_of_ble_eq_true rfl) hR2) rfl rfl (Nat.le_of_ble_eq_true rfl) dM_readPage_347 ?_
                                  refine ax_goto 356 dM_readPage_350 (by decide) ?_
                                  refine ax_mask [true, true, true, true, true, false] rfl [some (va_rf (some y0)), some (.int z1), some (.int z2), some (.int z3), some (.int z4), none] rfl ?_
                                  cases hf
                                  exact K
                                · refine ax_icmp_neT 353 dM_readPage_334 (by decide) hc ?_
                                  refine ax_iconst (0 : Int32) dM_readPage_353 k32_0 ?_
                                  refine ax_istore (i := 4) [some (va_rf (some y0)), some (.int z1), some (.int z2), some (.int z3), some (.int (0 : Int32)), some (.int x11)] dM_readPage_354 (Nat.le_of_ble_eq_true rfl) (Or.inr (c1i rfl)) rfl ?_
                                  refine ax_mask [true, true, true, true, true, false] rfl [some (va_rf (some y0)), some (.int z1), some (.int z2), some (.int z3), some (.int (0 : Int32)), none] rfl ?_
                                  cases hf
                                  exact K
                            · refine ax_icmp_neT 353 dM_readPage_317 (by decide) hc ?_
                              refine ax_iconst (0 : Int32) dM_readPage_353 k32_0 ?_
                              refine ax_istore (i := 4) [some (va_rf (some y0)), some (.int z1), some (.int z2), some (.int z3), some (.int (0 : Int32)), some (.int x11)] dM_readPage_354 (Nat.le_of_ble_eq_true rfl) (Or.inr (c1i rfl)) rfl ?_
                              refine ax_mask [true, true, true, true, true, false] rfl [some (va_rf (some y0)), some (.int z1), some (.int z2), some (.int z3), some (.int (0 : Int32)), none] rfl ?_
                              cases hf
                              exact K
                    · refine ax_icmp_neT 277 dM_readPage_231 (by decide) hc ?_
                      refine ax_iload (i := 5) dM_readPage_277 rfl ?_
                      refine ax_bipush (41 : Int32) dM_readPage_279 k8_41 ?_
                      replace hf := ite_c hf
                      rcases hf with ⟨hc, hf⟩ | ⟨hc, hf⟩
                      · refine ax_icmp_neF 313 dM_readPage_281 (by decide) hc ?_
                        refine ax_iload_n (i := 1) dM_readPage_284 rfl rfl ?_
                        replace hf := ite_c hf
                        rcases hf with ⟨hc, hf⟩ | ⟨hc, hf⟩
                        · refine ax_if_eqT 313 dM_readPage_285 (by decide) hc ?_
                          refine ax_iload (i := 5) dM_readPage_313 rfl ?_
                          refine ax_bipush (125 : Int32) dM_readPage_315 k8_125 ?_
                          replace hf := ite_c hf
                          rcases hf with ⟨hc, hf⟩ | ⟨hc, hf⟩
                          · refine ax_icmp_neF 353 dM_readPage_317 (by decide) hc ?_
                            refine ax_iload_n (i := 1) dM_readPage_320 rfl rfl ?_
                            replace hf := ite_c hf
                            rcases hf with ⟨hc, hf⟩ | ⟨hc, hf⟩
                            · refine ax_if_eqT 353 dM_readPage_321 (by decide) hc ?_
                              refine ax_iconst (0 : Int32) dM_readPage_353 k32_0 ?_
                              refine ax_istore (i := 4) [some (va_rf (some y0)), some (.int z1), some (.int z2), some (.int z3), some (.int (0 : Int32)), some (.int x11)] dM_readPage_354 (Nat.le_of_ble_eq_true rfl) (Or.inr (c1i rfl)) rfl ?_
                              refine ax_mask [true, true, true, true, true, false] rfl [some (va_rf (some y0)), some (.int z1), some (.int z2), some (.int z3), some (.int (0 : Int32)), none] rfl ?_
                              cases hf
                              exact K
                            · refine ax_if_eqF 353 dM_readPage_321 (by decide) hc ?_
                              refine ax_aload_n (i := 0) (some y0) dM_readPage_324 rfl rfl ?_
                              replace hf := bd1_s hf
                              obtain ⟨r23, e_r23, hf⟩ := hf
                              refine ax_getR fl_1035 rfl dM_readPage_325 e_r23 ?_
                              refine ax_aload_n (i := 0) (some y0) dM_readPage_328 rfl rfl ?_
                              replace hf := bd1_s hf
                              obtain ⟨x24, e_x24, hf⟩ := hf
                              refine ax_getI fl_1034 rfl dM_readPage_329 e_x24 ?_
                              replace hf := bd1_s hf
                              obtain ⟨a25, e_d, hf⟩ := hf
                              subst e_d
                              replace hf := bd1_s hf
                              obtain ⟨x26, e_x26, hf⟩ := hf
                              refine ax_iald dM_readPage_332 e_x26 ?_
                              refine ax_iconst (2 : Int32) dM_readPage_333 k32_2 ?_
                              replace hf := ite_c hf
                              rcases hf with ⟨hc, hf⟩ | ⟨hc, hf⟩
                              · refine ax_icmp_neF 353 dM_readPage_334 (by decide) hc ?_
                                refine ax_aload_n (i := 0) (some y0) dM_readPage_337 rfl rfl ?_
                                refine ax_aload_n (i := 0) (some y0) dM_readPage_338 rfl rfl ?_
                                replace hf := bd1_s hf
                                obtain ⟨r27, e_r27, hf⟩ := hf
                                refine ax_getR fl_1035 rfl dM_readPage_339 e_r27 ?_
                                refine ax_aload_n (i := 0) (some y0) dM_readPage_342 rfl rfl ?_
                                replace hf := bd1_s hf
                                obtain ⟨x28, e_x28, hf⟩ := hf
                                refine ax_getI fl_1034 rfl dM_readPage_343 e_x28 ?_
                                replace hf := bd1_s hf
                                obtain ⟨a29, e_d, hf⟩ := hf
                                subst e_d
                                replace hf := bd1_s hf
                                obtain ⟨x30, e_x30, hf⟩ := hf
                                refine ax_iald dM_readPage_346 e_x30 ?_
                                replace hf := bd1_s hf
                                obtain ⟨h31, e_h31, hf⟩ := hf
                                obtain ⟨k_e_h31, e_h31⟩ := cv_s e_h31
                                refine ax_callV (As := [.int x30]) (rest := []) (c_M_close e_h31) ml_1230 cm_M_close rfl k_e_h31 (Nat.le_trans (Nat.le_of_ble_eq_true rfl) hR1) (Nat.le_trans (Nat.le_of_ble_eq_true rfl) hR2) rfl rfl (Nat.le_of_ble_eq_true rfl) dM_readPage_347 ?_
                                refine ax_goto 356 dM_readPage_350 (by decide) ?_
                                refine ax_mask [true, true, true, true, true, false] rfl [some (va_rf (some y0)), some (.int z1), some (.int z2), some (.int z3), some (.int z4), none] rfl ?_
                                cases hf
                                exact K
                              · refine ax_icmp_neT 353 dM_readPage_334 (by decide) hc ?_
                                refine ax_iconst (0 : Int32) dM_readPage_353 k32_0 ?_
                                refine ax_istore (i := 4) [some (va_rf (some y0)), some (.int z1), some (.int z2), some (.int z3), some (.int (0 : Int32)), some (.int x11)] dM_readPage_354 (Nat.le_of_ble_eq_true rfl) (Or.inr (c1i rfl)) rfl ?_
                                refine ax_mask [true, true, true, true, true, false] rfl [some (va_rf (some y0)), some (.int z1), some (.int z2), some (.int z3), some (.int (0 : Int32)), none] rfl ?_
                                cases hf
                                exact K
                          · refine ax_icmp_neT 353 dM_readPage_317 (by decide) hc ?_
                            refine ax_iconst (0 : Int32) dM_readPage_353 k32_0 ?_
                            refine ax_istore (i := 4) [some (va_rf (some y0)), some (.int z1), some (.int z2), some (.int z3), some (.int (0 : Int32)), some (.int x11)] dM_readPage_354 (Nat.le_of_ble_eq_true rfl) (Or.inr (c1i rfl)) rfl ?_
                            refine ax_mask [true, true, true, true, true, false] rfl [some (va_rf (some y0)), some (.int z1), some (.int z2), some (.int z3), some (.int (0 : Int32)), none] rfl ?_
                            cases hf
                            exact K
                        · refine ax_if_eqF 313 dM_readPage_285 (by decide) hc ?_
                          refine ax_aload_n (i := 0) (some y0) dM_readPage_288 rfl rfl ?_
                          replace hf := bd1_s hf
                          obtain ⟨r32, e_r32, hf⟩ := hf
                          refine ax_getR fl_1035 rfl dM_readPage_289 e_r32 ?_
                          refine ax_aload_n (i := 0) (some y0) dM_readPage_292 rfl rfl ?_
                          replace hf := bd1_s hf
                          obtain ⟨x33, e_x33, hf⟩ := hf
                          refine ax_getI fl_1034 rfl dM_readPage_293 e_x33 ?_
                          replace hf := bd1_s hf
                          obtain ⟨a34, e_d, hf⟩ := hf
                          subst e_d
                          replace hf := bd1_s hf
                          obtain ⟨x35, e_x35, hf⟩ := hf
                          refine ax_iald dM_readPage_296 e_x35 ?_
                          refine ax_iconst (1 : Int32) dM_readPage_297 k32_1 ?_
                          replace hf := ite_c hf
                          rcases hf with ⟨hc, hf⟩ | ⟨hc, hf⟩
                          · refine ax_icmp_neF 313 dM_readPage_298 (by decide) hc ?_
                            refine ax_aload_n (i := 0) (some y0) dM_readPage_301 rfl rfl ?_
                            replace hf := bd1_s hf
                            obtain ⟨r45, e_r45, hf⟩ := hf
                            refine ax_getR fl_1036 rfl dM_readPage_302 e_r45 ?_
                            refine ax_aload_n (i := 0) (some y0) dM_readPage_305 rfl rfl ?_
                            replace hf := bd1_s hf
                            obtain ⟨x46, e_x46, hf⟩ := hf
                            refine ax_getI fl_1034 rfl dM_readPage_306 e_x46 ?_
                            replace hf := bd1_s hf
                            obtain ⟨a47, e_d, hf⟩ := hf
                            subst e_d
                            replace hf := bd1_s hf
                            obtain ⟨x48, e_x48, hf⟩ := hf
                            refine ax_iald dM_readPage_309 e_x48 ?_
                            replace hf := ite_c hf
                            rcases hf with ⟨hc, hf⟩ | ⟨hc, hf⟩
                            · refine ax_if_gtT 337 dM_readPage_310 (by decide) hc ?_
                              refine ax_aload_n (i := 0) (some y0) dM_readPage_337 rfl rfl ?_
                              refine ax_aload_n (i := 0) (some y0) dM_readPage_338 rfl rfl ?_
                              replace hf := bd1_s hf
                              obtain ⟨r49, e_r49, hf⟩ := hf
                              refine ax_getR fl_1035 rfl dM_readPage_339 e_r49 ?_
                              refine ax_aload_n (i := 0) (some y0) dM_readPage_342 rfl rfl ?_
                              replace hf := bd1_s hf
                              obtain ⟨x50, e_x50, hf⟩ := hf
                              refine ax_getI fl_1034 rfl dM_readPage_343 e_x50 ?_
                              replace hf := bd1_s hf
                              obtain ⟨a51, e_d, hf⟩ := hf
                              subst e_d
                              replace hf := bd1_s hf
                              obtain ⟨x52, e_x52, hf⟩ := hf
                              refine ax_iald dM_readPage_346 e_x52 ?_
                              replace hf := bd1_s hf
                              obtain ⟨h53, e_h53, hf⟩ := hf
                              obtain ⟨k_e_h53, e_h53⟩ := cv_s e_h53
                              refine ax_callV (As := [.int x52]) (rest := []) (c_M_close e_h53) ml_1230 cm_M_close rfl k_e_h53 (Nat.le_trans (Nat.le_of_ble_eq_true rfl) hR1) (Nat.le_trans (Nat.le_of_ble_eq_true rfl) hR2) rfl rfl (Nat.le_of_ble_eq_true rfl) dM_readPage_347 ?_
                              refine ax_goto 356 dM_readPage_350 (by decide) ?_
                              refine ax_mask [true, true, true, true, true, false] rfl [some (va_rf (some y0)), some (.int z1), some (.int z2), some (.int z3), some (.int z4), none] rfl ?_
                              cases hf
                              exact K
                            · refine ax_if_gtF 337 dM_readPage_310 (by decide) hc ?_
                              refine ax_iload (i := 5) dM_readPage_313 rfl ?_
                              refine ax_bipush (125 : Int32) dM_readPage_315 k8_125 ?_
                              replace hf := ite_c hf
                              rcases hf with ⟨hc, hf⟩ | ⟨hc, hf⟩
                              · refine ax_icmp_neF 353 dM_readPage_317 (by decide) hc ?_
                                refine ax_iload_n (i := 1) dM_readPage_320 rfl rfl ?_
                                replace hf := ite_c hf
                                rcases hf with ⟨hc, hf⟩ | ⟨hc, hf⟩
                                · refine ax_if_eqT 353 dM_readPage_321 (by decide) hc ?_
                                  refine ax_iconst (0 : Int32) dM_readPage_353 k32_0 ?_
                                  refine ax_istore (i := 4) [some (va_rf (some y0)), some (.int z1), some (.int z2), some (.int z3), some (.int (0 : Int32)), some (.int x11)] dM_readPage_354 (Nat.le_of_ble_eq_true rfl) (Or.inr (c1i rfl)) rfl ?_
                                  refine ax_mask [true, true, true, true, true, false] rfl [some (va_rf (some y0)), some (.int z1), some (.int z2), some (.int z3), some (.int (0 : Int32)), none] rfl ?_
                                  cases hf
                                  exact K
                                · refine ax_if_eqF 353 dM_readPage_321 (by decide) hc ?_
                                  refine ax_aload_n (i := 0) (some y0) dM_readPage_324 rfl rfl ?_
                                  replace hf := bd1_s hf
                                  obtain ⟨r54, e_r54, hf⟩ := hf
                                  refine ax_getR fl_1035 rfl dM_readPage_325 e_r54 ?_
                                  refine ax_aload_n (i := 0) (some y0) dM_readPage_328 rfl rfl ?_
                                  replace hf := bd1_s hf
                                  obtain ⟨x55, e_x55, hf⟩ := hf
                                  refine ax_getI fl_1034 rfl dM_readPage_329 e_x55 ?_
                                  replace hf := bd1_s hf
                                  obtain ⟨a56, e_d, hf⟩ := hf
                                  subst e_d
                                  replace hf := bd1_s hf
                                  obtain ⟨x57, e_x57, hf⟩ := hf
                                  refine ax_iald dM_readPage_332 e_x57 ?_
                                  refine ax_iconst (2 : Int32) dM_readPage_333 k32_2 ?_
                                  replace hf := ite_c hf
                                  rcases hf with ⟨hc, hf⟩ | ⟨hc, hf⟩
                                  · refine ax_icmp_neF 353 dM_readPage_334 (by decide) hc ?_
                                    refine ax_aload_n (i := 0) (some y0) dM_readPage_337 rfl rfl ?_
                                    refine ax_aload_n (i := 0) (some y0) dM_readPage_338 rfl rfl ?_
                                    replace hf := bd1_s hf
                                    obtain ⟨r58, e_r58, hf⟩ := hf
                                    refine ax_getR fl_1035 rfl dM_readPage_339 e_r58 ?_
                                    refine ax_aload_n (i := 0) (some y0) dM_readPage_342 rfl rfl ?_
                                    replace hf := bd1_s hf
                                    obtain ⟨x59, e_x59, hf⟩ := hf
                                    refine ax_getI fl_1034 rfl dM_readPage_343 e_x59 ?_
                                    replace hf := bd1_s hf
                                    obtain ⟨a60, e_d, hf⟩ := hf
                                    subst e_d
                                    replace hf := bd1_s hf
                                    obtain ⟨x61, e_x61, hf⟩ := hf
                                    refine ax_iald dM_readPage_346 e_x61 ?_
                                    replace hf := bd1_s hf
                                    obtain ⟨h62, e_h62, hf⟩ := hf
                                    obtain ⟨k_e_h62, e_h62⟩ := cv_s e_h62
                                    refine ax_callV (As := [.int x61]) (rest := []) (c_M_close e_h62) ml_1230 cm_M_close rfl k_e_h62 (Nat.le_trans (Nat.le_of_ble_eq_true rfl) hR1) (Nat.le_trans (Nat.le_of_ble_eq_true rfl) hR2) rfl rfl (Nat.le_of_ble_eq_true rfl) dM_readPage_347 ?_
                                    refine ax_goto 356 dM_readPage_350 (by decide) ?_
                                    refine ax_mask [true, true, true, true, true, false] rfl [some (va_rf (some y0)), some (.int z1), some (.int z2), some (.int z3), some (.int z4), none] rfl ?_
                                    cases hf
                                    exact K
                                  · refine ax_icmp_neT 353 dM_readPage_334 (by decide) hc ?_
                                    refine ax_iconst (0 : Int32) dM_readPage_353 k32_0 ?_
                                    refine ax_istore (i := 4) [some (va_rf (some y0)), some (.int z1), some (.int z2), some (.int z3), some (.int (0 : Int32)), some (.int x11)] dM_readPage_354 (Nat.le_of_ble_eq_true rfl) (Or.inr (c1i rfl)) rfl ?_
                                    refine ax_mask [true, true, true, true, true, false] rfl [some (va_rf (some y0)), some (.int z1), some (.int z2), some (.int z3), some (.int (0 : Int32)), none] rfl ?_
                                    cases hf
                                    exact K
                              · refine ax_icmp_neT 353 dM_readPage_317 (by decide) hc ?_
                                refine ax_iconst (0 : Int32) dM_readPage_353 k32_0 ?_
                                refine ax_istore (i := 4) [some (va_rf (some y0)), some (.int z1), some (.int z2), some (.int z3), some (.int (0 : Int32)), some (.int x11)] dM_readPage_354 (Nat.le_of_ble_eq_true rfl) (Or.inr (c1i rfl)) rfl ?_
                                refine ax_mask [true, true, true, true, true, false] rfl [some (va_rf (some y0)), some (.int z1), some (.int z2), some (.int z3), some (.int (0 : Int32)), none] rfl ?_
                                cases hf
                                exact K
                          · refine ax_icmp_neT 313 dM_readPage_298 (by decide) hc ?_
                            refine ax_iload (i := 5) dM_readPage_313 rfl ?_
                            refine ax_bipush (125 : Int32) dM_readPage_315 k8_125 ?_
                            replace hf := ite_c hf
                            rcases hf with ⟨hc, hf⟩ | ⟨hc, hf⟩
                            · refine ax_icmp_neF 353 dM_readPage_317 (by decide) hc ?_
                              refine ax_iload_n (i := 1) dM_readPage_320 rfl rfl ?_
                              replace hf := ite_c hf
                              rcases hf with ⟨hc, hf⟩ | ⟨hc, hf⟩
                              · refine ax_if_eqT 353 dM_readPage_321 (by decide) hc ?_
                                refine ax_iconst (0 : Int32) dM_readPage_353 k32_0 ?_
                                refine ax_istore (i := 4) [some (va_rf (some y0)), some (.int z1), some (.int z2), some (.int z3), some (.int (0 : Int32)), some (.int x11)] dM_readPage_354 (Nat.le_of_ble_eq_true rfl) (Or.inr (c1i rfl)) rfl ?_
                                refine ax_mask [true, true, true, true, true, false] rfl [some (va_rf (some y0)), some (.int z1), some (.int z2), some (.int z3), some (.int (0 : Int32)), none] rfl ?_
                                cases hf
                                exact K
                              · refine ax_if_eqF 353 dM_readPage_321 (by decide) hc ?_
                                refine ax_aload_n (i := 0) (some y0) dM_readPage_324 rfl rfl ?_
                                replace hf := bd1_s hf
                                obtain ⟨r36, e_r36, hf⟩ := hf
                                refine ax_getR fl_1035 rfl dM_readPage_325 e_r36 ?_
                                refine ax_aload_n (i := 0) (some y0) dM_readPage_328 rfl rfl ?_
                                replace hf := bd1_s hf
                                obtain ⟨x37, e_x37, hf⟩ := hf
                                refine ax_getI fl_1034 rfl dM_readPage_329 e_x37 ?_
                                replace hf := bd1_s hf
                                obtain ⟨a38, e_d, hf⟩ := hf
                                subst e_d
                                replace hf := bd1_s hf
                                obtain ⟨x39, e_x39, hf⟩ := hf
                                refine ax_iald dM_readPage_332 e_x39 ?_
                                refine ax_iconst (2 : Int32) dM_readPage_333 k32_2 ?_
                                replace hf := ite_c hf
                                rcases hf with ⟨hc, hf⟩ | ⟨hc, hf⟩
                                · refine ax_icmp_neF 353 dM_readPage_334 (by decide) hc ?_
                                  refine ax_aload_n (i := 0) (some y0) dM_readPage_337 rfl rfl ?_
                                  refine ax_aload_n (i := 0) (some y0) dM_readPage_338 rfl rfl ?_
                                  replace hf := bd1_s hf
                                  obtain ⟨r40, e_r40, hf⟩ := hf
                                  refine ax_getR fl_1035 rfl dM_readPage_339 e_r40 ?_
                                  refine ax_aload_n (i := 0) (some y0) dM_readPage_342 rfl rfl ?_
                                  replace hf := bd1_s hf
                                  obtain ⟨x41, e_x41, hf⟩ := hf
                                  refine ax_getI fl_1034 rfl dM_readPage_343 e_x41 ?_
                                  replace hf := bd1_s hf
                                  obtain ⟨a42, e_d, hf⟩ := hf
                                  subst e_d
                                  replace hf := bd1_s hf
                                  obtain ⟨x43, e_x43, hf⟩ := hf
                                  refine ax_iald dM_readPage_346 e_x43 ?_
                                  replace hf := bd1_s hf
                                  obtain ⟨h44, e_h44, hf⟩ := hf
                                  obtain ⟨k_e_h44, e_h44⟩ := cv_s e_h44
                                  refine ax_callV (As := [.int x43]) (rest := []) (c_M_close e_h44) ml_1230 cm_M_close rfl k_e_h44 (Nat.le_trans (Nat.le_of_ble_eq_true rfl) hR1) (Nat.le_trans (Nat.le_of_ble_eq_true rfl) hR2) rfl rfl (Nat.le_of_ble_eq_true rfl) dM_readPage_347 ?_
                                  refine ax_goto 356 dM_readPage_350 (by decide) ?_
                                  refine ax_mask [true, true, true, true, true, false] rfl [some (va_rf (some y0)), some (.int z1), some (.int z2), some (.int z3), some (.int z4), none] rfl ?_
                                  cases hf
                                  exact K
                                · refine ax_icmp_neT 353 dM_readPage_334 (by decide) hc ?_
                                  refine ax_iconst (0 : Int32) dM_readPage_353 k32_0 ?_
                                  refine ax_istore (i := 4) [some (va_rf (some y0)), some (.int z1), some (.int z2), some (.int z3), some (.int (0 : Int32)), some (.int x11)] dM_readPage_354 (Nat.le_of_ble_eq_true rfl) (Or.inr (c1i rfl)) rfl ?_
                                  refine ax_mask [true, true, true, true, true, false] rfl [some (va_rf (some y0)), some (.int z1), some (.int z2), some (.int z3), some (.int (0 : Int32)), none] rfl ?_
                                  cases hf
                                  exact K
                            · refine ax_icmp_neT 353 dM_readPage_317 (by decide) hc ?_
                              refine ax_iconst (0 : Int32) dM_readPage_353 k32_0 ?_
                              refine ax_istore (i := 4) [some (va_rf (some y0)), some (.int z1), some (.int z2), some (.int z3), some (.int (0 : Int32)), some (.int x11)] dM_readPage_354 (Nat.le_of_ble_eq_true rfl) (Or.inr (c1i rfl)) rfl ?_
                              refine ax_mask [true, true, true, true, true, false] rfl [some (va_rf (some y0)), some (.int z1), some (.int z2), some (.int z3), some (.int (0 : Int32)), none] rfl ?_
                              cases hf
                              exact K
                      · refine ax_icmp_neT 313 dM_readPage_281 (by decide) hc ?_
                        refine ax_iload (i := 5) dM_readPage_313 rfl ?_
                        refine ax_bipush (125 : Int32) dM_readPage_315 k8_125 ?_
                        replace hf := ite_c hf
                        rcases hf with ⟨hc, hf⟩ | ⟨hc, hf⟩
                        · refine ax_icmp_neF 353 dM_readPage_317 (by decide) hc ?_
                          refine ax_iload_n (i := 1) dM_readPage_320 rfl rfl ?_
                          replace hf := ite_c hf
                          rcases hf with ⟨hc, hf⟩ | ⟨hc, hf⟩
                          · refine ax_if_eqT 353 dM_readPage_321 (by decide) hc ?_
                            refine ax_iconst (0 : Int32) dM_readPage_353 k32_0 ?_
                            refine ax_istore (i := 4) [some (va_rf (some y0)), some (.int z1), some (.int z2), some (.int z3), some (.int (0 : Int32)), some (.int x11)] dM_readPage_354 (Nat.le_of_ble_eq_true rfl) (Or.inr (c1i rfl)) rfl ?_
                            refine ax_mask [true, true, true, true, true, false] rfl [some (va_rf (some y0)), some (.int z1), some (.int z2), some (.int z3), some (.int (0 : Int32)), none] rfl ?_
                            cases hf
                            exact K
                          · refine ax_if_eqF 353 dM_readPage_321 (by decide) hc ?_
                            refine ax_aload_n (i := 0) (some y0) dM_readPage_324 rfl rfl ?_
                            replace hf := bd1_s hf
                            obtain ⟨r14, e_r14, hf⟩ := hf
                            refine ax_getR fl_1035 rfl dM_readPage_325 e_r14 ?_
                            refine ax_aload_n (i := 0) (some y0) dM_readPage_328 rfl rfl ?_
                            replace hf := bd1_s hf
                            obtain ⟨x15, e_x15, hf⟩ := hf
                            refine ax_getI fl_1034 rfl dM_readPage_329 e_x15 ?_
                            replace hf := bd1_s hf
                            obtain ⟨a16, e_d, hf⟩ := hf
                            subst e_d
                            replace hf := bd1_s hf
                            obtain ⟨x17, e_x17, hf⟩ := hf
                            refine ax_iald dM_readPage_332 e_x17 ?_
                            refine ax_iconst (2 : Int32) dM_readPage_333 k32_2 ?_
                            replace hf := ite_c hf
                            rcases hf with ⟨hc, hf⟩ | ⟨hc, hf⟩
                            · refine ax_icmp_neF 353 dM_readPage_334 (by decide) hc ?_
                              refine ax_aload_n (i := 0) (some y0) dM_readPage_337 rfl rfl ?_
                              refine ax_aload_n (i := 0) (some y0) dM_readPage_338 rfl rfl ?_
                              replace hf := bd1_s hf
                              obtain ⟨r18, e_r18, hf⟩ := hf
                              refine ax_getR fl_1035 rfl dM_readPage_339 e_r18 ?_
                              refine ax_aload_n (i := 0) (some y0) dM_readPage_342 rfl rfl ?_
                              replace hf := bd1_s hf
                              obtain ⟨x19, e_x19, hf⟩ := hf
                              refine ax_getI fl_1034 rfl dM_readPage_343 e_x19 ?_
                              replace hf := bd1_s hf
                              obtain ⟨a20, e_d, hf⟩ := hf
                              subst e_d
                              replace hf := bd1_s hf
                              obtain ⟨x21, e_x21, hf⟩ := hf
                              refine ax_iald dM_readPage_346 e_x21 ?_
                              replace hf := bd1_s hf
                              obtain ⟨h22, e_h22, hf⟩ := hf
                              obtain ⟨k_e_h22, e_h22⟩ := cv_s e_h22
                              refine ax_callV (As := [.int x21]) (rest := []) (c_M_close e_h22) ml_1230 cm_M_close rfl k_e_h22 (Nat.le_trans (Nat.le_of_ble_eq_true rfl) hR1) (Nat.le_trans (Nat.le_of_ble_eq_true rfl) hR2) rfl rfl (Nat.le_of_ble_eq_true rfl) dM_readPage_347 ?_
                              refine ax_goto 356 dM_readPage_350 (by decide) ?_
                              refine ax_mask [true, true, true, true, true, false] rfl [some (va_rf (some y0)), some (.int z1), some (.int z2), some (.int z3), some (.int z4), none] rfl ?_
                              cases hf
                              exact K
                            · refine ax_icmp_neT 353 dM_readPage_334 (by decide) hc ?_
                              refine ax_iconst (0 : Int32) dM_readPage_353 k32_0 ?_
                              refine ax_istore (i := 4) [some (va_rf (some y0)), some (.int z1), some (.int z2), some (.int z3), some (.int (0 : Int32)), some (.int x11)] dM_readPage_354 (Nat.le_of_ble_eq_true rfl) (Or.inr (c1i rfl)) rfl ?_
                              refine ax_mask [true, true, true, true, true, false] rfl [some (va_rf (some y0)), some (.int z1), some (.int z2), some (.int z3), some (.int (0 : Int32)), none] rfl ?_
                              cases hf
                              exact K
                        · refine ax_icmp_neT 353 dM_readPage_317 (by decide) hc ?_
                          refine ax_iconst (0 : Int32) dM_readPage_353 k32_0 ?_
                          refine ax_istore (i := 4) [some (va_rf (some y0)), some (.int z1), some (.int z2), some (.int z3), some (.int (0 : Int32)), some (.int x11)] dM_readPage_354 (Nat.le_of_ble_eq_true rfl) (Or.inr (c1i rfl)) rfl ?_
                          refine ax_mask [true, true, true, true, true, false] rfl [some (va_rf (some y0)), some (.int z1), some (.int z2), some (.int z3), some (.int (0 : Int32)), none] rfl ?_
                          cases hf
                          exact K
        · refine ax_icmp_eqF 143 dM_readPage_68 (by decide) hc ?_
          refine ax_iload (i := 5) dM_readPage_71 rfl ?_
          refine ax_bipush (97 : Int32) dM_readPage_73 k8_97 ?_
          refine ax_bipush (104 : Int32) dM_readPage_75 k8_104 ?_
          replace hf := bd1_s hf
          obtain ⟨x175, e_x175, hf⟩ := hf
          refine ax_callS (As := [.int x11, .int (97 : Int32), .int (104 : Int32)]) (rest := []) (c_M_in e_x175) ml_1215 cm_M_in (Nat.le_trans (Nat.le_of_ble_eq_true rfl) hR1) (Nat.le_trans (Nat.le_of_ble_eq_true rfl) hR2) rfl rfl (Nat.le_of_ble_eq_true rfl) dM_readPage_77 ?_
          refine ax_istore (i := 4) [some (va_rf (some y0)), some (.int z1), some (.int z2), some (.int z3), some (.int x175), some (.int x11)] dM_readPage_80 (Nat.le_of_ble_eq_true rfl) (Or.inr (c1i rfl)) rfl ?_
          refine ax_iload (i := 4) dM_readPage_82 rfl ?_
          replace hf := ite_c hf
          rcases hf with ⟨hc, hf⟩ | ⟨hc, hf⟩
          · refine ax_if_eqT 356 dM_readPage_84 (by decide) hc ?_
            refine ax_mask [true, true, true, true, true, false] rfl [some (va_rf (some y0)), some (.int z1), some (.int z2), some (.int z3), some (.int x175), none] rfl ?_
            cases hf
            exact K
          · refine ax_if_eqF 356 dM_readPage_84 (by decide) hc ?_
            refine ax_aload_n (i := 0) (some y0) dM_readPage_87 rfl rfl ?_
            replace hf := bd1_s hf
            obtain ⟨r176, e_r176, hf⟩ := hf
            refine ax_getR fl_1044 rfl dM_readPage_88 e_r176 ?_
            refine ax_aload_n (i := 0) (some y0) dM_readPage_91 rfl rfl ?_
            replace hf := bd1_s hf
            obtain ⟨x177, e_x177, hf⟩ := hf
            refine ax_getI fl_1043 rfl dM_readPage_92 e_x177 ?_
            refine ax_iconst (2 : Int32) dM_readPage_95 k32_2 ?_
            refine ax_iload (i := 5) dM_readPage_96 rfl ?_
            refine ax_bipush (97 : Int32) dM_readPage_98 k8_97 ?_
            refine ax_isub dM_readPage_100 ?_
            refine ax_imul dM_readPage_101 ?_
            refine ax_iload_n (i := 2) dM_readPage_102 rfl rfl ?_
            refine ax_iadd dM_readPage_103 ?_
            replace hf := bd1_s hf
            obtain ⟨a178, e_d, hf⟩ := hf
            subst e_d
            replace hf := bd1_s hf
            obtain ⟨h179, e_h179, hf⟩ := hf
            refine ax_iast dM_readPage_104 e_h179 ?_
            refine ax_aload_n (i := 0) (some y0) dM_readPage_105 rfl rfl ?_
            refine ax_dup dM_readPage_106 rfl ?_
            replace hf := bd1_s hf
            obtain ⟨x180, e_x180, hf⟩ := hf
            refine ax_getI fl_1043 rfl dM_readPage_107 e_x180 ?_
            refine ax_iconst (1 : Int32) dM_readPage_110 k32_1 ?_
            refine ax_iadd dM_readPage_111 ?_
            replace hf := bd1_s hf
            obtain ⟨h181, e_h181, hf⟩ := hf
            refine ax_putI fw_1043 rfl rfl dM_readPage_112 e_h181 ?_
            refine ax_aload_n (i := 0) (some y0) dM_readPage_115 rfl rfl ?_
            refine ax_iconst (0 : Int32) dM_readPage_116 k32_0 ?_
            refine ax_lconst (1 : Int64) dM_readPage_117 kl_1 ?_
            refine ax_aload_n (i := 0) (some y0) dM_readPage_118 rfl rfl ?_
            replace hf := bd1_s hf
            obtain ⟨x182, e_x182, hf⟩ := hf
            refine ax_getI fl_1043 rfl dM_readPage_119 e_x182 ?_
            refine ax_iconst (1 : Int32) dM_readPage_122 k32_1 ?_
            refine ax_isub dM_readPage_123 ?_
            refine ax_lshl dM_readPage_124 ?_
            refine ax_lconst (1 : Int64) dM_readPage_125 kl_1 ?_
            refine ax_aload_n (i := 0) (some y0) dM_readPage_126 rfl rfl ?_
            replace hf := bd1_s hf
            obtain ⟨x183, e_x183, hf⟩ := hf
            refine ax_getI fl_1043 rfl dM_readPage_127 e_x183 ?_
            refine ax_iconst (1 : Int32) dM_readPage_130 k32_1 ?_
            refine ax_isub dM_readPage_131 ?_
            refine ax_lshl dM_readPage_132 ?_
            replace hf := bd1_s hf
            obtain ⟨h184, e_h184, hf⟩ := hf
            obtain ⟨k_e_h184, e_h184⟩ := cv_s e_h184
            refine ax_callV (As := [.int (0 : Int32), .long (xlshl (1 : Int64) (x182 - (1 : Int32))), .long (xlshl (1 : Int64) (x183 - (1 : Int32)))]) (rest := []) (c_M_append e_h184) ml_1218 cm_M_append rfl k_e_h184 (Nat.le_trans (Nat.le_of_ble_eq_true rfl) hR1) (Nat.le_trans (Nat.le_of_ble_eq_true rfl) hR2) rfl rfl (Nat.le_of_ble_eq_true rfl) dM_readPage_133 ?_
            refine ax_iconst (-1 : Int32) dM_readPage_136 k32_m1 ?_
            refine ax_istore_n (i := 2) [some (va_rf (some y0)), some (.int z1), some (.int (-1 : Int32)), some (.int z3), some (.int x175), some (.int x11)] dM_readPage_137 rfl (Nat.le_of_ble_eq_true rfl) (Or.inr (c1i rfl)) rfl ?_
            refine ax_iconst (1 : Int32) dM_readPage_138 k32_1 ?_
            refine ax_istore_n (i := 1) [some (va_rf (some y0)), some (.int (1 : Int32)), some (.int (-1 : Int32)), some (.int z3), some (.int x175), some (.int x11)] dM_readPage_139 rfl (Nat.le_of_ble_eq_true rfl) (Or.inr (c1r rfl)) rfl ?_
            refine ax_goto 356 dM_readPage_140 (by decide) ?_
            refine ax_mask [true, true, true, true, true, false] rfl [some (va_rf (some y0)), some (.int (1 : Int32)), some (.int (-1 : Int32)), some (.int z3), some (.int x175), none] rfl ?_
            cases hf
            exact K
    · refine ax_icmp_geT 372 dM_readPage_50 (by decide) hc ?_
      refine ax_mask [true, true, true, true, false, true] rfl [some (va_rf (some y0)), some (.int z1), some (.int z2), some (.int z3), none, none] rfl ?_
      exact hk z1 z2 z3 h hf
theorem v_M_readPage {l : Launch} {E : EN} {R : Room} {B : (Nat × Nat) × (Nat × Nat)} {Qf : QF} {h0 : AH} {o : Nat} {hF : AH} (hR1 : 4 ≤ R.frames) (hR2 : 256 ≤ R.locals) (Hr : ∀ (pc : Nat) (L : List (Option Value)), decode mi_M_readPage.2.1 pc = .ok (.return_, 1) → AW l E mi_M_readPage R B Qf pc L [] hF) (hf : f_M_readPage h0 o = some hF) : AW l E mi_M_readPage R B Qf 0 [some (va_rf (some o)), none, none, none, none, none] [] h0 := by
  unfold f_M_readPage at hf
  refine ax_aload_n (i := 0) (some o) dM_readPage_0 rfl rfl ?_
  refine ax_iconst (-1 : Int32) dM_readPage_1 k32_m1 ?_
  replace hf := bd1_s hf
  obtain ⟨h1, e_h1, hf⟩ := hf
  refine ax_putI fw_1034 rfl rfl dM_readPage_2 e_h1 ?_
  refine ax_aload_n (i := 0) (some o) dM_readPage_5 rfl rfl ?_
  refine ax_iconst (0 : Int32) dM_readPage_6 k32_0 ?_
  replace hf := bd1_s hf
  obtain ⟨h2, e_h2, hf⟩ := hf
  refine ax_putI fw_1043 rfl rfl dM_readPage_7 e_h2 ?_
  refine ax_aload_n (i := 0) (some o) dM_readPage_10 rfl rfl ?_
  refine ax_iconst (0 : Int32) dM_readPage_11 k32_0 ?_
  replace hf := bd1_s hf
  obtain ⟨h3, e_h3, hf⟩ := hf
  obtain ⟨k_e_h3, e_h3⟩ := cv_s e_h3
  refine ax_callV (As := [.int (0 : Int32)]) (rest := []) (c_M_open e_h3) ml_1207 cm_M_open rfl k_e_h3 (Nat.le_trans (Nat.le_of_ble_eq_true rfl) hR1) (Nat.le_trans (Nat.le_of_ble_eq_true rfl) hR2) rfl rfl (Nat.le_of_ble_eq_true rfl) dM_readPage_12 ?_
  refine ax_iconst (0 : Int32) dM_readPage_15 k32_0 ?_
  refine ax_istore_n (i := 1) [some (va_rf (some o)), some (.int (0 : Int32)), none, none, none, none] dM_readPage_16 rfl (Nat.le_of_ble_eq_true rfl) (Or.inr (c1r rfl)) rfl ?_
  refine w_M_readPage_L17 hR1 hR2 (fun h7 hf => ?_) FU (0 : Int32) h3 hf
  refine ax_iconst (0 : Int32) dM_readPage_36 k32_0 ?_
  refine ax_istore_n (i := 1) [some (va_rf (some o)), some (.int (0 : Int32)), none, none, none, none] dM_readPage_37 rfl (Nat.le_of_ble_eq_true rfl) (Or.inr (c1r rfl)) rfl ?_
  refine ax_iconst (-1 : Int32) dM_readPage_38 k32_m1 ?_
  refine ax_istore_n (i := 2) [some (va_rf (some o)), some (.int (0 : Int32)), some (.int (-1 : Int32)), none, none, none] dM_readPage_39 rfl (Nat.le_of_ble_eq_true rfl) (Or.inr (c1i rfl)) rfl ?_
  refine ax_iconst (0 : Int32) dM_readPage_40 k32_0 ?_
  refine ax_istore_n (i := 3) [some (va_rf (some o)), some (.int (0 : Int32)), some (.int (-1 : Int32)), some (.int (0 : Int32)), none, none] dM_readPage_41 rfl (Nat.le_of_ble_eq_true rfl) (Or.inr (c1i rfl)) rfl ?_
  refine ax_iconst (1 : Int32) dM_readPage_42 k32_1 ?_
  refine ax_istore (i := 4) [some (va_rf (some o)), some (.int (0 : Int32)), some (.int (-1 : Int32)), some (.int (0 : Int32)), some (.int (1 : Int32)), none] dM_readPage_43 (Nat.le_of_ble_eq_true rfl) (Or.inr (c1i rfl)) rfl ?_
  refine w_M_readPage_L45 hR1 hR2 (fun x191 x192 x193 h194 hf => ?_) FU (0 : Int32) (-1 : Int32) (0 : Int32) (1 : Int32) h7 hf
  refine ax_aload_n (i := 0) (some o) dM_readPage_372 rfl rfl ?_
  refine ax_iload_n (i := 3) dM_readPage_373 rfl rfl ?_
  replace hf := bd1_s hf
  obtain ⟨h195, e_h195, hf⟩ := hf
  refine ax_putI fw_1046 rfl rfl dM_readPage_374 e_h195 ?_
  refine ax_aload_n (i := 0) (some o) dM_readPage_377 rfl rfl ?_
  refine ax_iload_n (i := 3) dM_readPage_378 rfl rfl ?_
  refine ax_aload_n (i := 0) (some o) dM_readPage_379 rfl rfl ?_
  replace hf := bd1_s hf
  obtain ⟨x196, e_x196, hf⟩ := hf
  refine ax_getI fl_1013 rfl dM_readPage_380 e_x196 ?_
  replace hf := bd1_s hf
  obtain ⟨x198, hT, hf⟩ := hf
  have K : AW l E mi_M_readPage R B Qf 407 [none, none, none, none, none, none] [.int x198, va_rf (some o)] h195 := by
    clear hT
    replace hf := bd1_s hf
    obtain ⟨h199, e_h199, hf⟩ := hf
    refine ax_putZ fw_1047 rfl rfl dM_readPage_407 e_h199 ?_
    cases hf
    exact Hr _ _ dM_readPage_410
  replace hf := hT
  clear hT
  replace hf := ite_c hf
  rcases hf with ⟨hc, hf⟩ | ⟨hc, hf⟩
  · refine ax_icmp_neF 406 dM_readPage_383 (by decide) hc ?_
    refine ax_aload_n (i := 0) (some o) dM_readPage_386 rfl rfl ?_
    replace hf := bd1_s hf
    obtain ⟨x197, e_x197, hf⟩ := hf
    refine ax_getI fl_1034 rfl dM_readPage_387 e_x197 ?_
    replace hf := ite_c hf
    rcases hf with ⟨hc, hf⟩ | ⟨hc, hf⟩
    · refine ax_if_neF 406 dM_readPage_390 (by decide) hc ?_
      refine ax_iload_n (i := 1) dM_readPage_393 rfl rfl ?_
      replace hf := ite_c hf
      rcases hf with ⟨hc, hf⟩ | ⟨hc, hf⟩
      · refine ax_if_eqT 406 dM_readPage_394 (by decide) hc ?_
        refine ax_iconst (0 : Int32) dM_readPage_406 k32_0 ?_
        refine ax_mask [false, false, false, false, true, true] rfl [none, none, none, none, none, none] rfl ?_
        cases hf
        exact K
      · refine ax_if_eqF 406 dM_readPage_394 (by decide) hc ?_
        refine ax_iload_n (i := 2) dM_readPage_397 rfl rfl ?_
        refine ax_iconst (-1 : Int32) dM_readPage_398 k32_m1 ?_
        replace hf := ite_c hf
        rcases hf with ⟨hc, hf⟩ | ⟨hc, hf⟩
        · refine ax_icmp_neF 406 dM_readPage_399 (by decide) hc ?_
          refine ax_iconst (1 : Int32) dM_readPage_402 k32_1 ?_
          refine ax_goto 407 dM_readPage_403 (by decide) ?_
          refine ax_mask [false, false, false, false, true, true] rfl [none, none, none, none, none, none] rfl ?_
          cases hf
          exact K
        · refine ax_icmp_neT 406 dM_readPage_399 (by decide) hc ?_
          refine ax_iconst (0 : Int32) dM_readPage_406 k32_0 ?_
          refine ax_mask [false, false, false, false, true, true] rfl [none, none, none, none, none, none] rfl ?_
          cases hf
          exact K
    · refine ax_if_neT 406 dM_readPage_390 (by decide) hc ?_
      refine ax_iconst (0 : Int32) dM_readPage_406 k32_0 ?_
      refine ax_mask [false, false, false, false, true, true] rfl [none, none, none, none, none, none] rfl ?_
      cases hf
      exact K
  · refine ax_icmp_neT 406 dM_readPage_383 (by decide) hc ?_
    refine ax_iconst (0 : Int32) dM_readPage_406 k32_0 ?_
    refine ax_mask [false, false, false, false, true, true] rfl [none, none, none, none, none, none] rfl ?_
    cases hf
    exact K
theorem c_M_readPage {l : Launch} {E : EN} {h0 : AH} {o : Nat} {hF : AH} (hf : f_M_readPage h0 o = some hF) : AM l E 4 mi_M_readPage [va_rf (some o)] h0 none hF :=
  am_of2 [(va_rf (some o), false)] 5 ⟨cat_rf _, trivial⟩ rfl rfl (v_M_readPage (Nat.le_refl _) (Nat.le_refl _) (fun pc L hd => ax_vret rfl hd rfl) hf)
theorem v_M_good {l : Launch} {E : EN} {R : Room} {B : (Nat × Nat) × (Nat × Nat)} {Qf : QF} {h0 : AH} {o : Nat} {r : Int32} {hF : AH} (hR1 : 5 ≤ R.frames) (hR2 : 320 ≤ R.locals) (Hr : ∀ (pc : Nat) (L : List (Option Value)), decode mi_M_good.2.1 pc = .ok (.ireturn, 1) → AW l E mi_M_good R B Qf pc L [.int r] hF) (hf : f_M_good h0 o = some (r, hF)) : AW l E mi_M_good R B Qf 0 [some (va_rf (some o))] [] h0 := by
  unfold f_M_good at hf
  refine ax_aload_n (i := 0) (some o) dM_good_0 rfl rfl ?_
  replace hf := bd1_s hf
  obtain ⟨h1, e_h1, hf⟩ := hf
  obtain ⟨k_e_h1, e_h1⟩ := cv_s e_h1
  refine ax_callV (As := []) (rest := []) (c_M_readPage e_h1) ml_1203 cm_M_readPage rfl k_e_h1 (Nat.le_trans (Nat.le_of_ble_eq_true rfl) hR1) (Nat.le_trans (Nat.le_of_ble_eq_true rfl) hR2) rfl rfl (Nat.le_of_ble_eq_true rfl) dM_good_1 ?_
  refine ax_aload_n (i := 0) (some o) dM_good_4 rfl rfl ?_
  replace hf := bd1_s hf
  obtain ⟨x2, e_x2, hf⟩ := hf
  refine ax_getI fl_1046 rfl dM_good_5 e_x2 ?_
  cases hf
  exact Hr _ _ dM_good_8
theorem c_M_good {l : Launch} {E : EN} {h0 : AH} {o : Nat} {r : Int32} {hF : AH} (hf : f_M_good h0 o = some (r, hF)) : AM l E 5 mi_M_good [va_rf (some o)] h0 (some (.int r)) hF :=
  am_of2 [(va_rf (some o), false)] 0 ⟨cat_rf _, trivial⟩ rfl rfl (v_M_good (Nat.le_refl _) (Nat.le_refl _) (fun pc L hd => ax_iret rfl hd rfl) hf)
theorem v_M_nextSet {l : Launch} {E : EN} {R : Room} {B : (Nat × Nat) × (Nat × Nat)} {Qf : QF} {h0 : AH} {o : Nat} {p1 : Int32} {r : Int64} (hR1 : 1 ≤ R.frames) (hR2 : 64 ≤ R.locals) (Hr : ∀ (pc : Nat) (L : List (Option Value)), decode mi_M_nextSet.2.1 pc = .ok (.lreturn, 1) → AW l E mi_M_nextSet R B Qf pc L [.long r] h0) (hf : f_M_nextSet h0 o p1 = some r) : AW l E mi_M_nextSet R B Qf 0 [some (va_rf (some o)), some (.int p1)] [] h0 := by
  unfold f_M_nextSet at hf
  refine ax_iload_n (i := 1) dM_nextSet_0 rfl rfl ?_
  replace hf := ite_c hf
  rcases hf with ⟨hc, hf⟩ | ⟨hc, hf⟩
  · refine ax_if_neF 13 dM_nextSet_1 (by decide) hc ?_
    refine ax_aload_n (i := 0) (some o) dM_nextSet_4 rfl rfl ?_
    replace hf := bd1_s hf
    obtain ⟨r4, e_r4, hf⟩ := hf
    refine ax_getR fl_1038 rfl dM_nextSet_5 e_r4 ?_
    refine ax_iconst (0 : Int32) dM_nextSet_8 k32_0 ?_
    replace hf := bd1_s hf
    obtain ⟨a5, e_d, hf⟩ := hf
    subst e_d
    replace hf := bd1_s hf
    obtain ⟨x6, e_x6, hf⟩ := hf
    refine ax_lald dM_nextSet_9 e_x6 ?_
    refine ax_goto 21 dM_nextSet_10 (by decide) ?_
    cases hf
    exact Hr _ _ dM_nextSet_21
  · refine ax_if_neT 13 dM_nextSet_1 (by decide) hc ?_
    refine ax_aload_n (i := 0) (some o) dM_nextSet_13 rfl rfl ?_
    replace hf := bd1_s hf
    obtain ⟨r1, e_r1, hf⟩ := hf
    refine ax_getR fl_1045 rfl dM_nextSet_14 e_r1 ?_
    refine ax_iload_n (i := 1) dM_nextSet_17 rfl rfl ?_
    refine ax_iconst (1 : Int32) dM_nextSet_18 k32_1 ?_
    refine ax_isub dM_nextSet_19 ?_
    replace hf := bd1_s hf
    obtain ⟨a2, e_d, hf⟩ := hf
    subst e_d
    replace hf := bd1_s hf
    obtain ⟨x3, e_x3, hf⟩ := hf
    refine ax_lald dM_nextSet_20 e_x3 ?_
    cases hf
    exact Hr _ _ dM_nextSet_21
theorem c_M_nextSet {l : Launch} {E : EN} {h0 : AH} {o : Nat} {p1 : Int32} {r : Int64} (hf : f_M_nextSet h0 o p1 = some r) : AM l E 1 mi_M_nextSet [va_rf (some o), .int p1] h0 (some (.long r)) h0 :=
  am_of2 [(va_rf (some o), false), (.int p1, false)] 0 ⟨cat_rf _, rfl, trivial⟩ rfl rfl (v_M_nextSet (Nat.le_refl _) (Nat.le_refl _) (fun pc L hd => ax_lret rfl hd rfl) hf)
theorem w_M_isTwofold_L14 {l : Launch} {E : EN} {R : Room} {B : (Nat × Nat) × (Nat × Nat)} {Qf : QF} {h0 : AH} {r : Int32} (hR1 : 2 ≤ R.frames) (hR2 : 128 ≤ R.locals) (Hr : (r = 0 ∨ r = 1) → ∀ (pc : Nat) (L : List (Option Value)), decode mi_M_isTwofold.2.1 pc = .ok (.ireturn, 1) → AW l E mi_M_isTwofold R B Qf pc L [.int r] h0) {y0 : Nat} {y1 : Int32} {k : Option (Int32)} (hk : k  = some r → AW l E mi_M_isTwofold R B Qf 69 [some (va_rf (some y0)), some (.int y1), none, none] [] h0) : ∀ (n : Nat) (z2 : Int32) (z3 : Int32), f_M_isTwofold_L14 h0 y0 y1 k n z2 z3 = some r → AW l E mi_M_isTwofold R B Qf 14 [some (va_rf (some y0)), some (.int y1), some (.int z2), some (.int z3)] [] h0 := by
  intro n
  induction n with
  | zero => intro z2 z3 hf; cases hf
  | succ n ih =>
    intro z2 z3 hf
    rw [f_M_isTwofold_L14] at hf
    refine ax_iload_n (i := 3) dM_isTwofold_14 rfl rfl ?_
    refine ax_aload_n (i := 0) (some y0) dM_isTwofold_15 rfl rfl ?_
    replace hf := bd1_s hf
    obtain ⟨x2, e_x2, hf⟩ := hf
    refine ax_getI fl_1043 rfl dM_isTwofold_16 e_x2 ?_
    replace hf := ite_c hf
    rcases hf with ⟨hc, hf⟩ | ⟨hc, hf⟩
    · refine ax_icmp_geF 69 dM_isTwofold_19 (by decide) hc ?_
      refine ax_aload_n (i := 0) (some y0) dM_isTwofold_22 rfl rfl ?_
      refine ax_iload_n (i := 1) dM_isTwofold_23 rfl rfl ?_
      replace hf := bd1_s hf
      obtain ⟨x3, e_x3, hf⟩ := hf
      obtain ⟨k_e_x3, e_x3⟩ := cv_s e_x3
      refine ax_callV (As := [.int y1]) (rest := []) (c_M_nextSet e_x3) ml_1242 cm_M_nextSet rfl k_e_x3 (Nat.le_trans (Nat.le_of_ble_eq_true rfl) hR1) (Nat.le_trans (Nat.le_of_ble_eq_true rfl) hR2) rfl rfl (Nat.le_of_ble_eq_true rfl) dM_isTwofold_24 ?_
      refine ax_iload_n (i := 3) dM_isTwofold_27 rfl rfl ?_
      refine ax_lshr dM_isTwofold_28 ?_
      refine ax_lconst (1 : Int64) dM_isTwofold_29 kl_1 ?_
      refine ax_land dM_isTwofold_30 ?_
      refine ax_lconst (1 : Int64) dM_isTwofold_31 kl_1 ?_
      refine ax_lcmp dM_isTwofold_32 ?_
      replace hf := ite_c hf
      rcases hf with ⟨hc, hf⟩ | ⟨hc, hf⟩
      · refine ax_if_neF 63 dM_isTwofold_33 (by decide) hc ?_
        refine ax_iload_n (i := 2) dM_isTwofold_36 rfl rfl ?_
        refine ax_aload_n (i := 0) (some y0) dM_isTwofold_37 rfl rfl ?_
        replace hf := bd1_s hf
        obtain ⟨r4, e_r4, hf⟩ := hf
        refine ax_getR fl_1044 rfl dM_isTwofold_38 e_r4 ?_
        refine ax_iload_n (i := 3) dM_isTwofold_41 rfl rfl ?_
        replace hf := bd1_s hf
        obtain ⟨a5, e_d, hf⟩ := hf
        subst e_d
        replace hf := bd1_s hf
        obtain ⟨x6, e_x6, hf⟩ := hf
        refine ax_iald dM_isTwofold_42 e_x6 ?_
        refine ax_ishr dM_isTwofold_43 ?_
        refine ax_iconst (1 : Int32) dM_isTwofold_44 k32_1 ?_
        refine ax_iand dM_isTwofold_45 ?_
        refine ax_iconst (1 : Int32) dM_isTwofold_46 k32_1 ?_
        replace hf := ite_c hf
        rcases hf with ⟨hc, hf⟩ | ⟨hc, hf⟩
        · refine ax_icmp_neF 52 dM_isTwofold_47 (by decide) hc ?_
          refine ax_iconst (1 : Int32) dM_isTwofold_50 k32_1 ?_
          cases hf
          exact Hr (Or.inr rfl) _ _ dM_isTwofold_51
        · refine ax_icmp_neT 52 dM_isTwofold_47 (by decide) hc ?_
          refine ax_iload_n (i := 2) dM_isTwofold_52 rfl rfl ?_
          refine ax_iconst (1 : Int32) dM_isTwofold_53 k32_1 ?_
          refine ax_aload_n (i := 0) (some y0) dM_isTwofold_54 rfl rfl ?_
          replace hf := bd1_s hf
          obtain ⟨r7, e_r7, hf⟩ := hf
          refine ax_getR fl_1044 rfl dM_isTwofold_55 e_r7 ?_
          refine ax_iload_n (i := 3) dM_isTwofold_58 rfl rfl ?_
          replace hf := bd1_s hf
          obtain ⟨a8, e_d, hf⟩ := hf
          subst e_d
          replace hf := bd1_s hf
          obtain ⟨x9, e_x9, hf⟩ := hf
          refine ax_iald dM_isTwofold_59 e_x9 ?_
          refine ax_ishl dM_isTwofold_60 ?_
          refine ax_ior dM_isTwofold_61 ?_
          replace hf := bd1_s hf
          obtain ⟨x10, e_x10, hf⟩ := hf
          refine ax_nmI (Option.some.inj e_x10) ?_
          refine ax_istore_n (i := 2) [some (va_rf (some y0)), some (.int y1), some (.int x10), some (.int z3)] dM_isTwofold_62 rfl (Nat.le_of_ble_eq_true rfl) (Or.inr (c1i rfl)) rfl ?_
          refine ax_iinc (i := 3) (z3 + (1 : Int32)) [some (va_rf (some y0)), some (.int y1), some (.int x10), some (.int (z3 + (1 : Int32)))] dM_isTwofold_63 rfl (iic k32_1) (Or.inr (c1i rfl)) rfl ?_
          refine ax_goto 14 dM_isTwofold_66 (by decide) ?_
          exact ih x10 (z3 + (1 : Int32)) hf
      · refine ax_if_neT 63 dM_isTwofold_33 (by decide) hc ?_
        refine ax_iinc (i := 3) (z3 + (1 : Int32)) [some (va_rf (some y0)), some (.int y1), some (.int z2), some (.int (z3 + (1 : Int32)))] dM_isTwofold_63 rfl (iic k32_1) (Or.inr (c1i rfl)) rfl ?_
        refine ax_goto 14 dM_isTwofold_66 (by decide) ?_
        exact ih z2 (z3 + (1 : Int32)) hf
    · refine ax_icmp_geT 69 dM_isTwofold_19 (by decide) hc ?_
      refine ax_mask [true, true, false, false] rfl [some (va_rf (some y0)), some (.int y1), none, none] rfl ?_
      exact hk  hf
theorem w_M_isTwofold_L2 {l : Launch} {E : EN} {R : Room} {B : (Nat × Nat) × (Nat × Nat)} {Qf : QF} {h0 : AH} {r : Int32} (hR1 : 2 ≤ R.frames) (hR2 : 128 ≤ R.locals) (Hr : (r = 0 ∨ r = 1) → ∀ (pc : Nat) (L : List (Option Value)), decode mi_M_isTwofold.2.1 pc = .ok (.ireturn, 1) → AW l E mi_M_isTwofold R B Qf pc L [.int r] h0) {y0 : Nat} : ∀ (n : Nat) (z1 : Int32), f_M_isTwofold_L2 h0 y0 n z1 = some r → AW l E mi_M_isTwofold R B Qf 2 [some (va_rf (some y0)), some (.int z1), none, none] [] h0 := by
  intro n
  induction n with
  | zero => intro z1 hf; cases hf
  | succ n ih =>
    intro z1 hf
    rw [f_M_isTwofold_L2] at hf
    refine ax_iload_n (i := 1) dM_isTwofold_2 rfl rfl ?_
    refine ax_aload_n (i := 0) (some y0) dM_isTwofold_3 rfl rfl ?_
    replace hf := bd1_s hf
    obtain ⟨x1, e_x1, hf⟩ := hf
    refine ax_getI fl_1043 rfl dM_isTwofold_4 e_x1 ?_
    replace hf := ite_c hf
    rcases hf with ⟨hc, hf⟩ | ⟨hc, hf⟩
    · refine ax_icmp_gtT 75 dM_isTwofold_7 (by decide) hc ?_
      refine ax_iconst (0 : Int32) dM_isTwofold_75 k32_0 ?_
      cases hf
      exact Hr (Or.inl rfl) _ _ dM_isTwofold_76
    · refine ax_icmp_gtF 75 dM_isTwofold_7 (by decide) hc ?_
      refine ax_iconst (0 : Int32) dM_isTwofold_10 k32_0 ?_
      refine ax_istore_n (i := 2) [some (va_rf (some y0)), some (.int z1), some (.int (0 : Int32)), none] dM_isTwofold_11 rfl (Nat.le_of_ble_eq_true rfl) (Or.inr (c1i rfl)) rfl ?_
      refine ax_iconst (0 : Int32) dM_isTwofold_12 k32_0 ?_
      refine ax_istore_n (i := 3) [some (va_rf (some y0)), some (.int z1), some (.int (0 : Int32)), some (.int (0 : Int32))] dM_isTwofold_13 rfl (Nat.le_of_ble_eq_true rfl) (Or.inr (c1i rfl)) rfl ?_
      refine w_M_isTwofold_L14 hR1 hR2 Hr (fun hf => ?_) FU (0 : Int32) (0 : Int32) hf
      refine ax_iinc (i := 1) (z1 + (1 : Int32)) [some (va_rf (some y0)), some (.int (z1 + (1 : Int32))), none, none] dM_isTwofold_69 rfl (iic k32_1) (Or.inr (c1r rfl)) rfl ?_
      refine ax_goto 2 dM_isTwofold_72 (by decide) ?_
      exact ih (z1 + (1 : Int32)) hf
theorem v_M_isTwofold {l : Launch} {E : EN} {R : Room} {B : (Nat × Nat) × (Nat × Nat)} {Qf : QF} {h0 : AH} {o : Nat} {r : Int32} (hR1 : 2 ≤ R.frames) (hR2 : 128 ≤ R.locals) (Hr : (r = 0 ∨ r = 1) → ∀ (pc : Nat) (L : List (Option Value)), decode mi_M_isTwofold.2.1 pc = .ok (.ireturn, 1) → AW l E mi_M_isTwofold R B Qf pc L [.int r] h0) (hf : f_M_isTwofold h0 o = some r) : AW l E mi_M_isTwofold R B Qf 0 [some (va_rf (some o)), none, none, none] [] h0 := by
  unfold f_M_isTwofold at hf
  refine ax_iconst (0 : Int32) dM_isTwofold_0 k32_0 ?_
  refine ax_istore_n (i := 1) [some (va_rf (some o)), some (.int (0 : Int32)), none, none] dM_isTwofold_1 rfl (Nat.le_of_ble_eq_true rfl) (Or.inr (c1r rfl)) rfl ?_
  refine w_M_isTwofold_L2 hR1 hR2 Hr FU (0 : Int32) hf
theorem c_M_isTwofold {l : Launch} {E : EN} {h0 : AH} {o : Nat} {r : Int32} (hf : f_M_isTwofold h0 o = some r) : AM l E 2 mi_M_isTwofold [va_rf (some o)] h0 (some (.int r)) h0 :=
  am_of2 [(va_rf (some o), false)] 3 ⟨cat_rf _, trivial⟩ rfl rfl (v_M_isTwofold (Nat.le_refl _) (Nat.le_refl _) (fun hz pc L hd => ax_zret rfl hz hd rfl) hf)
theorem v_M_place {l : Launch} {E : EN} {R : Room} {B : (Nat × Nat) × (Nat × Nat)} {Qf : QF} {h0 : AH} {p1 : Int32} {p2 : Int32} {p3 : Int32} {p4 : Int32} {r : Int32} (hR1 : 1 ≤ R.frames) (hR2 : 64 ≤ R.locals) (Hr : ∀ (pc : Nat) (L : List (Option Value)), decode mi_M_place.2.1 pc = .ok (.ireturn, 1) → AW l E mi_M_place R B Qf pc L [.int r] h0) (hf : f_M_place h0 p1 p2 p3 p4 = some r) : AW l E mi_M_place R B Qf 0 [some (.int p1), some (.int p2), some (.int p3), some (.int p4)] [] h0 := by
  unfold f_M_place at hf
  refine ax_sipush (400 : Int32) dM_place_0 k16_400 ?_
  refine ax_iload_n (i := 0) dM_place_3 rfl rfl ?_
  refine ax_imul dM_place_4 ?_
  refine ax_bipush (16 : Int32) dM_place_5 k8_16 ?_
  refine ax_iload_n (i := 1) dM_place_7 rfl rfl ?_
  refine ax_imul dM_place_8 ?_
  refine ax_iadd dM_place_9 ?_
  refine ax_bipush (8 : Int32) dM_place_10 k8_8 ?_
  refine ax_iload_n (i := 2) dM_place_12 rfl rfl ?_
  refine ax_imul dM_place_13 ?_
  refine ax_iadd dM_place_14 ?_
  refine ax_iload_n (i := 3) dM_place_15 rfl rfl ?_
  refine ax_iadd dM_place_16 ?_
  cases hf
  exact Hr _ _ dM_place_17
theorem c_M_place {l : Launch} {E : EN} {h0 : AH} {p1 : Int32} {p2 : Int32} {p3 : Int32} {p4 : Int32} {r : Int32} (hf : f_M_place h0 p1 p2 p3 p4 = some r) : AM l E 1 mi_M_place [.int p1, .int p2, .int p3, .int p4] h0 (some (.int r)) h0 :=
  am_of2 [(.int p1, false), (.int p2, false), (.int p3, false), (.int p4, false)] 0 ⟨rfl, rfl, rfl, rfl, trivial⟩ rfl rfl (v_M_place (Nat.le_refl _) (Nat.le_refl _) (fun pc L hd => ax_iret rfl hd rfl) hf)
