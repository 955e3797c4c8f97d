theorem w_M_actFrom_L63 {l : Launch} {E : EN} {R : Room} {B : (Nat × Nat) × (Nat × Nat)} {Qf : QF} {ρ : Type} {res : ρ} (hR1 : 3 ≤ R.frames) (hR2 : 192 ≤ R.locals) {y0 : Nat} {y1 : Int32} {y2 : Int32} {y3 : Int32} {y4 : Int32} {y5 : Int32} {y6 : Int32} {y7 : Int32} {y8 : Int32} {k : AH → Option (ρ)} (hk : ∀ (h : AH), k h = some res → AW l E mi_M_actFrom R B Qf 131 [some (va_rf (some y0)), some (.int y1), some (.int y2), some (.int y3), some (.int y4), some (.int y5), some (.int y6), some (.int y7), some (.int y8), none, none] [] h) : ∀ (n : Nat) (z9 : Int32) (h : AH), f_M_actFrom_L63 y0 y1 y2 y3 y4 y5 y6 y7 y8 k n z9 h = some res → AW l E mi_M_actFrom R B Qf 63 [some (va_rf (some y0)), some (.int y1), some (.int y2), some (.int y3), some (.int y4), some (.int y5), some (.int y6), some (.int y7), some (.int y8), some (.int z9), none] [] h := by
  intro n
  induction n with
  | zero => intro z9 h hf; cases hf
  | succ n ih =>
    intro z9 h hf
    rw [f_M_actFrom_L63] at hf
    refine ax_iload (i := 9) dM_actFrom_63 rfl ?_
    refine ax_bipush (8 : Int32) dM_actFrom_65 k8_8 ?_
    replace hf := ite_c hf
    rcases hf with ⟨hc, hf⟩ | ⟨hc, hf⟩
    · refine ax_icmp_geF 131 dM_actFrom_67 (by decide) hc ?_
      refine ax_aload_n (i := 0) (some y0) dM_actFrom_70 rfl rfl ?_
      replace hf := bd1_s hf
      obtain ⟨r18, e_r18, hf⟩ := hf
      refine ax_getR fl_1017 rfl dM_actFrom_71 e_r18 ?_
      refine ax_iload_n (i := 1) dM_actFrom_74 rfl rfl ?_
      refine ax_iload (i := 8) dM_actFrom_75 rfl ?_
      refine ax_iconst (1 : Int32) dM_actFrom_77 k32_1 ?_
      refine ax_iload (i := 9) dM_actFrom_78 rfl ?_
      replace hf := bd1_s hf
      obtain ⟨x19, e_x19, hf⟩ := hf
      refine ax_callS (As := [.int y1, .int y8, .int (1 : Int32), .int z9]) (rest := [va_rf r18]) (c_M_place e_x19) ml_1246 cm_M_place (Nat.le_trans (Nat.le_of_ble_eq_true rfl) hR1) (Nat.le_trans (Nat.le_of_ble_eq_true rfl) hR2) rfl rfl (by simp only [List.map_cons, List.map_nil, List.sum_cons, List.sum_nil, cat_rf]; exact Nat.le_of_ble_eq_true rfl) dM_actFrom_80 ?_
      replace hf := bd1_s hf
      obtain ⟨a20, e_d, hf⟩ := hf
      subst e_d
      replace hf := bd1_s hf
      obtain ⟨x21, e_x21, hf⟩ := hf
      refine ax_iald dM_actFrom_83 e_x21 ?_
      refine ax_istore (i := 10) [some (va_rf (some y0)), some (.int y1), some (.int y2), some (.int y3), some (.int y4), some (.int y5), some (.int y6), some (.int y7), some (.int y8), some (.int z9), some (.int x21)] dM_actFrom_84 (Nat.le_of_ble_eq_true rfl) (Or.inr (c1i rfl)) rfl ?_
      refine ax_iload (i := 10) dM_actFrom_86 rfl ?_
      refine ax_iconst (-1 : Int32) dM_actFrom_88 k32_m1 ?_
      replace hf := ite_c hf
      rcases hf with ⟨hc, hf⟩ | ⟨hc, hf⟩
      · refine ax_icmp_eqT 125 dM_actFrom_89 (by decide) hc ?_
        refine ax_iinc (i := 9) (z9 + (1 : Int32)) [some (va_rf (some y0)), some (.int y1), some (.int y2), some (.int y3), some (.int y4), some (.int y5), some (.int y6), some (.int y7), some (.int y8), some (.int (z9 + (1 : Int32))), some (.int x21)] dM_actFrom_125 rfl (iic k32_1) (Or.inr (c1i rfl)) rfl ?_
        refine ax_goto 63 dM_actFrom_128 (by decide) ?_
        refine ax_mask [true, true, true, true, true, true, true, true, true, true, false] rfl [some (va_rf (some y0)), some (.int y1), some (.int y2), some (.int y3), some (.int y4), some (.int y5), some (.int y6), some (.int y7), some (.int y8), some (.int (z9 + (1 : Int32))), none] rfl ?_
        exact ih (z9 + (1 : Int32)) h hf
      · refine ax_icmp_eqF 125 dM_actFrom_89 (by decide) hc ?_
        refine ax_iload (i := 6) dM_actFrom_92 rfl ?_
        replace hf := bd1_s hf
        obtain ⟨x22, e_x22, hf⟩ := hf
        refine ax_callS (As := [.int y6]) (rest := []) (c_M_sizeOf e_x22) ml_1323 cm_M_sizeOf (Nat.le_trans (Nat.le_of_ble_eq_true rfl) hR1) (Nat.le_trans (Nat.le_of_ble_eq_true rfl) hR2) rfl rfl (Nat.le_of_ble_eq_true rfl) dM_actFrom_94 ?_
        refine ax_iload_n (i := 3) dM_actFrom_97 rfl rfl ?_
        replace hf := ite_c hf
        rcases hf with ⟨hc, hf⟩ | ⟨hc, hf⟩
        · refine ax_icmp_geF 125 dM_actFrom_98 (by decide) hc ?_
          refine ax_aload_n (i := 0) (some y0) dM_actFrom_101 rfl rfl ?_
          refine ax_iload (i := 10) dM_actFrom_102 rfl ?_
          refine ax_iload (i := 7) dM_actFrom_104 rfl ?_
          refine ax_iload (i := 6) dM_actFrom_106 rfl ?_
          refine ax_iload (i := 9) dM_actFrom_108 rfl ?_
          replace hf := bd1_s hf
          obtain ⟨x23, e_x23, hf⟩ := hf
          refine ax_callS (As := [.int y6, .int z9]) (rest := [.int y7, .int x21, va_rf (some y0)]) (c_M_behind e_x23) ml_1326 cm_M_behind (Nat.le_trans (Nat.le_of_ble_eq_true rfl) hR1) (Nat.le_trans (Nat.le_of_ble_eq_true rfl) hR2) rfl rfl (Nat.le_of_ble_eq_true rfl) dM_actFrom_110 ?_
          refine ax_iload (i := 5) dM_actFrom_113 rfl ?_
          replace hf := bd1_s hf
          obtain ⟨x24, e_x24, hf⟩ := hf
          refine ax_callS (As := [.int x21, .int y7, .int x23, .int y5]) (rest := [va_rf (some y0)]) (c_M_code e_x24) ml_1329 cm_M_code (Nat.le_trans (Nat.le_of_ble_eq_true rfl) hR1) (Nat.le_trans (Nat.le_of_ble_eq_true rfl) hR2) rfl rfl (Nat.le_of_ble_eq_true rfl) dM_actFrom_115 ?_
          refine ax_iload (i := 4) dM_actFrom_118 rfl ?_
          refine ax_iload (i := 9) dM_actFrom_120 rfl ?_
          replace hf := bd1_s hf
          obtain ⟨h25, e_h25, hf⟩ := hf
          obtain ⟨k_e_h25, e_h25⟩ := cv_s e_h25
          refine ax_callV (As := [.int x24, .int y4, .int z9]) (rest := []) (c_M_come e_h25) ml_1332 cm_M_come rfl k_e_h25 (Nat.le_trans (Nat.le_of_ble_eq_true rfl) hR1) (Nat.le_trans (Nat.le_of_ble_eq_true rfl) hR2) rfl rfl (Nat.le_of_ble_eq_true rfl) dM_actFrom_122 ?_
          refine ax_iinc (i := 9) (z9 + (1 : Int32)) [some (va_rf (some y0)), some (.int y1), some (.int y2), some (.int y3), some (.int y4), some (.int y5), some (.int y6), some (.int y7), some (.int y8), some (.int (z9 + (1 : Int32))), some (.int x21)] dM_actFrom_125 rfl (iic k32_1) (Or.inr (c1i rfl)) rfl ?_
          refine ax_goto 63 dM_actFrom_128 (by decide) ?_
          refine ax_mask [true, true, true, true, true, true, true, true, true, true, false] rfl [some (va_rf (some y0)), some (.int y1), some (.int y2), some (.int y3), some (.int y4), some (.int y5), some (.int y6), some (.int y7), some (.int y8), some (.int (z9 + (1 : Int32))), none] rfl ?_
          exact ih (z9 + (1 : Int32)) h25 hf
        · refine ax_icmp_geT 125 dM_actFrom_98 (by decide) hc ?_
          refine ax_iinc (i := 9) (z9 + (1 : Int32)) [some (va_rf (some y0)), some (.int y1), some (.int y2), some (.int y3), some (.int y4), some (.int y5), some (.int y6), some (.int y7), some (.int y8), some (.int (z9 + (1 : Int32))), some (.int x21)] dM_actFrom_125 rfl (iic k32_1) (Or.inr (c1i rfl)) rfl ?_
          refine ax_goto 63 dM_actFrom_128 (by decide) ?_
          refine ax_mask [true, true, true, true, true, true, true, true, true, true, false] rfl [some (va_rf (some y0)), some (.int y1), some (.int y2), some (.int y3), some (.int y4), some (.int y5), some (.int y6), some (.int y7), some (.int y8), some (.int (z9 + (1 : Int32))), none] rfl ?_
          exact ih (z9 + (1 : Int32)) h hf
    · refine ax_icmp_geT 131 dM_actFrom_67 (by decide) hc ?_
      refine ax_mask [true, true, true, true, true, true, true, true, true, false, true] rfl [some (va_rf (some y0)), some (.int y1), some (.int y2), some (.int y3), some (.int y4), some (.int y5), some (.int y6), some (.int y7), some (.int y8), none, none] rfl ?_
      exact hk h hf
theorem w_M_actFrom_L134 {l : Launch} {E : EN} {R : Room} {B : (Nat × Nat) × (Nat × Nat)} {Qf : QF} {ρ : Type} {res : ρ} (hR1 : 3 ≤ R.frames) (hR2 : 192 ≤ R.locals) {y0 : Nat} {y1 : Int32} {y2 : Int32} {y3 : Int32} {y4 : Int32} {y5 : Int32} {y6 : Int32} {y7 : Int32} {y8 : Int32} {k : AH → Option (ρ)} (hk : ∀ (h : AH), k h = some res → AW l E mi_M_actFrom R B Qf 205 [some (va_rf (some y0)), some (.int y1), some (.int y2), none, some (.int y4), some (.int y5), some (.int y6), some (.int y7), some (.int y8), none, none] [] h) : ∀ (n : Nat) (z9 : Int32) (h : AH), f_M_actFrom_L134 y0 y1 y2 y3 y4 y5 y6 y7 y8 k n z9 h = some res → AW l E mi_M_actFrom R B Qf 134 [some (va_rf (some y0)), some (.int y1), some (.int y2), some (.int y3), some (.int y4), some (.int y5), some (.int y6), some (.int y7), some (.int y8), some (.int z9), none] [] h := by
  intro n
  induction n with
  | zero => intro z9 h hf; cases hf
  | succ n ih =>
    intro z9 h hf
    rw [f_M_actFrom_L134] at hf
    refine ax_iload (i := 9) dM_actFrom_134 rfl ?_
    refine ax_bipush (8 : Int32) dM_actFrom_136 k8_8 ?_
    replace hf := ite_c hf
    rcases hf with ⟨hc, hf⟩ | ⟨hc, hf⟩
    · refine ax_icmp_geF 205 dM_actFrom_138 (by decide) hc ?_
      refine ax_aload_n (i := 0) (some y0) dM_actFrom_141 rfl rfl ?_
      replace hf := bd1_s hf
      obtain ⟨r27, e_r27, hf⟩ := hf
      refine ax_getR fl_1017 rfl dM_actFrom_142 e_r27 ?_
      refine ax_iload_n (i := 2) dM_actFrom_145 rfl rfl ?_
      refine ax_iload (i := 7) dM_actFrom_146 rfl ?_
      refine ax_iconst (1 : Int32) dM_actFrom_148 k32_1 ?_
      refine ax_iload (i := 9) dM_actFrom_149 rfl ?_
      replace hf := bd1_s hf
      obtain ⟨x28, e_x28, hf⟩ := hf
      refine ax_callS (As := [.int y2, .int y7, .int (1 : Int32), .int z9]) (rest := [va_rf r27]) (c_M_place e_x28) ml_1246 cm_M_place (Nat.le_trans (Nat.le_of_ble_eq_true rfl) hR1) (Nat.le_trans (Nat.le_of_ble_eq_true rfl) hR2) rfl rfl (by simp only [List.map_cons, List.map_nil, List.sum_cons, List.sum_nil, cat_rf]; exact Nat.le_of_ble_eq_true rfl) dM_actFrom_151 ?_
      replace hf := bd1_s hf
      obtain ⟨a29, e_d, hf⟩ := hf
      subst e_d
      replace hf := bd1_s hf
      obtain ⟨x30, e_x30, hf⟩ := hf
      refine ax_iald dM_actFrom_154 e_x30 ?_
      refine ax_istore (i := 10) [some (va_rf (some y0)), some (.int y1), some (.int y2), some (.int y3), some (.int y4), some (.int y5), some (.int y6), some (.int y7), some (.int y8), some (.int z9), some (.int x30)] dM_actFrom_155 (Nat.le_of_ble_eq_true rfl) (Or.inr (c1i rfl)) rfl ?_
      refine ax_iload (i := 10) dM_actFrom_157 rfl ?_
      refine ax_iconst (-1 : Int32) dM_actFrom_159 k32_m1 ?_
      replace hf := ite_c hf
      rcases hf with ⟨hc, hf⟩ | ⟨hc, hf⟩
      · refine ax_icmp_eqT 199 dM_actFrom_160 (by decide) hc ?_
        refine ax_iinc (i := 9) (z9 + (1 : Int32)) [some (va_rf (some y0)), some (.int y1), some (.int y2), some (.int y3), some (.int y4), some (.int y5), some (.int y6), some (.int y7), some (.int y8), some (.int (z9 + (1 : Int32))), some (.int x30)] dM_actFrom_199 rfl (iic k32_1) (Or.inr (c1i rfl)) rfl ?_
        refine ax_goto 134 dM_actFrom_202 (by decide) ?_
        refine ax_mask [true, true, true, true, true, true, true, true, true, true, false] rfl [some (va_rf (some y0)), some (.int y1), some (.int y2), some (.int y3), some (.int y4), some (.int y5), some (.int y6), some (.int y7), some (.int y8), some (.int (z9 + (1 : Int32))), none] rfl ?_
        exact ih (z9 + (1 : Int32)) h hf
      · refine ax_icmp_eqF 199 dM_actFrom_160 (by decide) hc ?_
        refine ax_iload (i := 5) dM_actFrom_163 rfl ?_
        replace hf := bd1_s hf
        obtain ⟨x31, e_x31, hf⟩ := hf
        refine ax_callS (As := [.int y5]) (rest := []) (c_M_sizeOf e_x31) ml_1323 cm_M_sizeOf (Nat.le_trans (Nat.le_of_ble_eq_true rfl) hR1) (Nat.le_trans (Nat.le_of_ble_eq_true rfl) hR2) rfl rfl (Nat.le_of_ble_eq_true rfl) dM_actFrom_165 ?_
        refine ax_iload_n (i := 3) dM_actFrom_168 rfl rfl ?_
        replace hf := ite_c hf
        rcases hf with ⟨hc, hf⟩ | ⟨hc, hf⟩
        · refine ax_icmp_geF 199 dM_actFrom_169 (by decide) hc ?_
          refine ax_aload_n (i := 0) (some y0) dM_actFrom_172 rfl rfl ?_
          refine ax_iload (i := 8) dM_actFrom_173 rfl ?_
          refine ax_iload (i := 10) dM_actFrom_175 rfl ?_
          refine ax_iload (i := 6) dM_actFrom_177 rfl ?_
          refine ax_iload (i := 5) dM_actFrom_179 rfl ?_
          refine ax_iload (i := 9) dM_actFrom_181 rfl ?_
          replace hf := bd1_s hf
          obtain ⟨x32, e_x32, hf⟩ := hf
          refine ax_callS (As := [.int y5, .int z9]) (rest := [.int y6, .int x30, .int y8, va_rf (some y0)]) (c_M_behind e_x32) ml_1326 cm_M_behind (Nat.le_trans (Nat.le_of_ble_eq_true rfl) hR1) (Nat.le_trans (Nat.le_of_ble_eq_true rfl) hR2) rfl rfl (Nat.le_of_ble_eq_true rfl) dM_actFrom_183 ?_
          replace hf := bd1_s hf
          obtain ⟨x33, e_x33, hf⟩ := hf
          refine ax_callS (As := [.int y8, .int x30, .int y6, .int x32]) (rest := [va_rf (some y0)]) (c_M_code e_x33) ml_1329 cm_M_code (Nat.le_trans (Nat.le_of_ble_eq_true rfl) hR1) (Nat.le_trans (Nat.le_of_ble_eq_true rfl) hR2) rfl rfl (Nat.le_of_ble_eq_true rfl) dM_actFrom_186 ?_
          refine ax_iload (i := 4) dM_actFrom_189 rfl ?_
          refine ax_bipush (8 : Int32) dM_actFrom_191 k8_8 ?_
          refine ax_iload (i := 9) dM_actFrom_193 rfl ?_
          refine ax_iadd dM_actFrom_195 ?_
          replace hf := bd1_s hf
          obtain ⟨h34, e_h34, hf⟩ := hf
          obtain ⟨k_e_h34, e_h34⟩ := cv_s e_h34
          refine ax_callV (As := [.int x33, .int y4, .int ((8 : Int32) + z9)]) (rest := []) (c_M_come e_h34) ml_1332 cm_M_come rfl k_e_h34 (Nat.le_trans (Nat.le_of_ble_eq_true rfl) hR1) (Nat.le_trans (Nat.le_of_ble_eq_true rfl) hR2) rfl rfl (Nat.le_of_ble_eq_true rfl) dM_actFrom_196 ?_
          refine ax_iinc (i := 9) (z9 + (1 : Int32)) [some (va_rf (some y0)), some (.int y1), some (.int y2), some (.int y3), some (.int y4), some (.int y5), some (.int y6), some (.int y7), some (.int y8), some (.int (z9 + (1 : Int32))), some (.int x30)] dM_actFrom_199 rfl (iic k32_1) (Or.inr (c1i rfl)) rfl ?_
          refine ax_goto 134 dM_actFrom_202 (by decide) ?_
          refine ax_mask [true, true, true, true, true, true, true, true, true, true, false] rfl [some (va_rf (some y0)), some (.int y1), some (.int y2), some (.int y3), some (.int y4), some (.int y5), some (.int y6), some (.int y7), some (.int y8), some (.int (z9 + (1 : Int32))), none] rfl ?_
          exact ih (z9 + (1 : Int32)) h34 hf
        · refine ax_icmp_geT 199 dM_actFrom_169 (by decide) hc ?_
          refine ax_iinc (i := 9) (z9 + (1 : Int32)) [some (va_rf (some y0)), some (.int y1), some (.int y2), some (.int y3), some (.int y4), some (.int y5), some (.int y6), some (.int y7), some (.int y8), some (.int (z9 + (1 : Int32))), some (.int x30)] dM_actFrom_199 rfl (iic k32_1) (Or.inr (c1i rfl)) rfl ?_
          refine ax_goto 134 dM_actFrom_202 (by decide) ?_
          refine ax_mask [true, true, true, true, true, true, true, true, true, true, false] rfl [some (va_rf (some y0)), some (.int y1), some (.int y2), some (.int y3), some (.int y4), some (.int y5), some (.int y6), some (.int y7), some (.int y8), some (.int (z9 + (1 : Int32))), none] rfl ?_
          exact ih (z9 + (1 : Int32)) h hf
    · refine ax_icmp_geT 205 dM_actFrom_138 (by decide) hc ?_
      refine ax_mask [true, true, true, false, true, true, true, true, true, false, true] rfl [some (va_rf (some y0)), some (.int y1), some (.int y2), none, some (.int y4), some (.int y5), some (.int y6), some (.int y7), some (.int y8), none, none] rfl ?_
      exact hk h hf
theorem v_M_actFrom {l : Launch} {E : EN} {R : Room} {B : (Nat × Nat) × (Nat × Nat)} {Qf : QF} {h0 : AH} {o : Nat} {p1 : Int32} {p2 : Int32} {p3 : Int32} {p4 : Int32} {hF : AH} (hR1 : 3 ≤ R.frames) (hR2 : 192 ≤ R.locals) (Hr : ∀ (pc : Nat) (L : List (Option Value)), decode mi_M_actFrom.2.1 pc = .ok (.return_, 1) → AW l E mi_M_actFrom R B Qf pc L [] hF) (hf : f_M_actFrom h0 o p1 p2 p3 p4 = some hF) : AW l E mi_M_actFrom R B Qf 0 [some (va_rf (some o)), some (.int p1), some (.int p2), some (.int p3), some (.int p4), none, none, none, none, none, none] [] h0 := by
  unfold f_M_actFrom at hf
  refine ax_aload_n (i := 0) (some o) dM_actFrom_0 rfl rfl ?_
  replace hf := bd1_s hf
  obtain ⟨r1, e_r1, hf⟩ := hf
  refine ax_getR fl_1052 rfl dM_actFrom_1 e_r1 ?_
  refine ax_iload (i := 4) dM_actFrom_4 rfl ?_
  replace hf := bd1_s hf
  obtain ⟨a2, e_d, hf⟩ := hf
  subst e_d
  replace hf := bd1_s hf
  obtain ⟨x3, e_x3, hf⟩ := hf
  refine ax_iald dM_actFrom_6 e_x3 ?_
  refine ax_bipush (73 : Int32) dM_actFrom_7 k8_73 ?_
  refine ax_irem dM_actFrom_9 (by decide) ?_
  replace hf := bd1_s hf
  obtain ⟨x4, e_x4, hf⟩ := hf
  refine ax_nmI (Option.some.inj e_x4) ?_
  refine ax_istore (i := 5) [some (va_rf (some o)), some (.int p1), some (.int p2), some (.int p3), some (.int p4), some (.int x4), none, none, none, none, none] dM_actFrom_10 (Nat.le_of_ble_eq_true rfl) (Or.inr (c1i rfl)) rfl ?_
  refine ax_aload_n (i := 0) (some o) dM_actFrom_12 rfl rfl ?_
  replace hf := bd1_s hf
  obtain ⟨r5, e_r5, hf⟩ := hf
  refine ax_getR fl_1052 rfl dM_actFrom_13 e_r5 ?_
  refine ax_iload (i := 4) dM_actFrom_16 rfl ?_
  replace hf := bd1_s hf
  obtain ⟨a6, e_d, hf⟩ := hf
  subst e_d
  replace hf := bd1_s hf
  obtain ⟨x7, e_x7, hf⟩ := hf
  refine ax_iald dM_actFrom_18 e_x7 ?_
  refine ax_bipush (73 : Int32) dM_actFrom_19 k8_73 ?_
  refine ax_idiv dM_actFrom_21 (by decide) ?_
  refine ax_bipush (73 : Int32) dM_actFrom_22 k8_73 ?_
  refine ax_irem dM_actFrom_24 (by decide) ?_
  replace hf := bd1_s hf
  obtain ⟨x8, e_x8, hf⟩ := hf
  refine ax_nmI (Option.some.inj e_x8) ?_
  refine ax_istore (i := 6) [some (va_rf (some o)), some (.int p1), some (.int p2), some (.int p3), some (.int p4), some (.int x4), some (.int x8), none, none, none, none] dM_actFrom_25 (Nat.le_of_ble_eq_true rfl) (Or.inr (c1i rfl)) rfl ?_
  refine ax_aload_n (i := 0) (some o) dM_actFrom_27 rfl rfl ?_
  replace hf := bd1_s hf
  obtain ⟨r9, e_r9, hf⟩ := hf
  refine ax_getR fl_1052 rfl dM_actFrom_28 e_r9 ?_
  refine ax_iload (i := 4) dM_actFrom_31 rfl ?_
  replace hf := bd1_s hf
  obtain ⟨a10, e_d, hf⟩ := hf
  subst e_d
  replace hf := bd1_s hf
  obtain ⟨x11, e_x11, hf⟩ := hf
  refine ax_iald dM_actFrom_33 e_x11 ?_
  refine ax_sipush (5329 : Int32) dM_actFrom_34 k16_5329 ?_
  refine ax_idiv dM_actFrom_37 (by decide) ?_
  refine ax_bipush (25 : Int32) dM_actFrom_38 k8_25 ?_
  refine ax_irem dM_actFrom_40 (by decide) ?_
  replace hf := bd1_s hf
  obtain ⟨x12, e_x12, hf⟩ := hf
  refine ax_nmI (Option.some.inj e_x12) ?_
  refine ax_istore (i := 7) [some (va_rf (some o)), some (.int p1), some (.int p2), some (.int p3), some (.int p4), some (.int x4), some (.int x8), some (.int x12), none, none, none] dM_actFrom_41 (Nat.le_of_ble_eq_true rfl) (Or.inr (c1i rfl)) rfl ?_
  refine ax_aload_n (i := 0) (some o) dM_actFrom_43 rfl rfl ?_
  replace hf := bd1_s hf
  obtain ⟨r13, e_r13, hf⟩ := hf
  refine ax_getR fl_1052 rfl dM_actFrom_44 e_r13 ?_
  refine ax_iload (i := 4) dM_actFrom_47 rfl ?_
  replace hf := bd1_s hf
  obtain ⟨a14, e_d, hf⟩ := hf
  subst e_d
  replace hf := bd1_s hf
  obtain ⟨x15, e_x15, hf⟩ := hf
  refine ax_iald dM_actFrom_49 e_x15 ?_
  refine ax_ldc w_1322 dM_actFrom_50 ?_
  refine ax_idiv dM_actFrom_52 (by decide) ?_
  replace hf := bd1_s hf
  obtain ⟨x16, e_x16, hf⟩ := hf
  refine ax_nmI (Option.some.inj e_x16) ?_
  refine ax_istore (i := 8) [some (va_rf (some o)), some (.int p1), some (.int p2), some (.int p3), some (.int p4), some (.int x4), some (.int x8), some (.int x12), some (.int x16), none, none] dM_actFrom_53 (Nat.le_of_ble_eq_true rfl) (Or.inr (c1i rfl)) rfl ?_
  refine ax_aload_n (i := 0) (some o) dM_actFrom_55 rfl rfl ?_
  refine ax_iconst (0 : Int32) dM_actFrom_56 k32_0 ?_
  replace hf := bd1_s hf
  obtain ⟨h17, e_h17, hf⟩ := hf
  refine ax_putZ fw_1059 rfl rfl dM_actFrom_57 e_h17 ?_
  refine ax_iconst (0 : Int32) dM_actFrom_60 k32_0 ?_
  refine ax_istore (i := 9) [some (va_rf (some o)), some (.int p1), some (.int p2), some (.int p3), some (.int p4), some (.int x4), some (.int x8), some (.int x12), some (.int x16), some (.int (0 : Int32)), none] dM_actFrom_61 (Nat.le_of_ble_eq_true rfl) (Or.inr (c1i rfl)) rfl ?_
  refine w_M_actFrom_L63 hR1 hR2 (fun h26 hf => ?_) FU (0 : Int32) h17 hf
  refine ax_iconst (0 : Int32) dM_actFrom_131 k32_0 ?_
  refine ax_istore (i := 9) [some (va_rf (some o)), some (.int p1), some (.int p2), some (.int p3), some (.int p4), some (.int x4), some (.int x8), some (.int x12), some (.int x16), some (.int (0 : Int32)), none] dM_actFrom_132 (Nat.le_of_ble_eq_true rfl) (Or.inr (c1i rfl)) rfl ?_
  refine w_M_actFrom_L134 hR1 hR2 (fun h35 hf => ?_) FU (0 : Int32) h26 hf
  refine ax_iload (i := 5) dM_actFrom_205 rfl ?_
  replace hf := bd1_s hf
  obtain ⟨h49, hT, hf⟩ := hf
  have K : AW l E mi_M_actFrom R B Qf 268 [some (va_rf (some o)), none, some (.int p2), none, some (.int p4), some (.int x4), some (.int x8), some (.int x12), some (.int x16), none, none] [] h49 := by
    clear hT
    refine ax_iload (i := 6) dM_actFrom_268 rfl ?_
    replace hf := ite_c hf
    rcases hf with ⟨hc, hf⟩ | ⟨hc, hf⟩
    · refine ax_if_leF 331 dM_actFrom_270 (by decide) hc ?_
      refine ax_aload_n (i := 0) (some o) dM_actFrom_273 rfl rfl ?_
      replace hf := bd1_s hf
      obtain ⟨r50, e_r50, hf⟩ := hf
      refine ax_getR fl_1017 rfl dM_actFrom_274 e_r50 ?_
      refine ax_iload_n (i := 2) dM_actFrom_277 rfl rfl ?_
      refine ax_iload (i := 7) dM_actFrom_278 rfl ?_
      refine ax_iconst (0 : Int32) dM_actFrom_280 k32_0 ?_
      refine ax_iload (i := 6) dM_actFrom_281 rfl ?_
      replace hf := bd1_s hf
      obtain ⟨x51, e_x51, hf⟩ := hf
      refine ax_callS (As := [.int x8]) (rest := [.int (0 : Int32), .int x12, .int p2, va_rf r50]) (c_M_front e_x51) ml_1336 cm_M_front (Nat.le_trans (Nat.le_of_ble_eq_true rfl) hR1) (Nat.le_trans (Nat.le_of_ble_eq_true rfl) hR2) rfl rfl (by simp only [List.map_cons, List.map_nil, List.sum_cons, List.sum_nil, cat_rf]; exact Nat.le_of_ble_eq_true rfl) dM_actFrom_283 ?_
      replace hf := bd1_s hf
      obtain ⟨x52, e_x52, hf⟩ := hf
      refine ax_callS (As := [.int p2, .int x12, .int (0 : Int32), .int x51]) (rest := [va_rf r50]) (c_M_place e_x52) ml_1246 cm_M_place (Nat.le_trans (Nat.le_of_ble_eq_true rfl) hR1) (Nat.le_trans (Nat.le_of_ble_eq_true rfl) hR2) rfl rfl (by simp only [List.map_cons, List.map_nil, List.sum_cons, List.sum_nil, cat_rf]; exact Nat.le_of_ble_eq_true rfl) dM_actFrom_286 ?_
      replace hf := bd1_s hf
      obtain ⟨a53, e_d, hf⟩ := hf
      subst e_d
      replace hf := bd1_s hf
      obtain ⟨x54, e_x54, hf⟩ := hf
      refine ax_iald dM_actFrom_289 e_x54 ?_
      refine ax_iconst (-1 : Int32) dM_actFrom_290 k32_m1 ?_
      replace hf := ite_c hf
      rcases hf with ⟨hc, hf⟩ | ⟨hc, hf⟩
      · refine ax_icmp_eqT 331 dM_actFrom_291 (by decide) hc ?_
        cases hf
        exact Hr _ _ dM_actFrom_331
      · refine ax_icmp_eqF 331 dM_actFrom_291 (by decide) hc ?_
        refine ax_aload_n (i := 0) (some o) dM_actFrom_294 rfl rfl ?_
        refine ax_iload (i := 8) dM_actFrom_295 rfl ?_
        refine ax_aload_n (i := 0) (some o) dM_actFrom_297 rfl rfl ?_
        replace hf := bd1_s hf
        obtain ⟨r55, e_r55, hf⟩ := hf
        refine ax_getR fl_1017 rfl dM_actFrom_298 e_r55 ?_
        refine ax_iload_n (i := 2) dM_actFrom_301 rfl rfl ?_
        refine ax_iload (i := 7) dM_actFrom_302 rfl ?_
        refine ax_iconst (0 : Int32) dM_actFrom_304 k32_0 ?_
        refine ax_iload (i := 6) dM_actFrom_305 rfl ?_
        replace hf := bd1_s hf
        obtain ⟨x56, e_x56, hf⟩ := hf
        refine ax_callS (As := [.int x8]) (rest := [.int (0 : Int32), .int x12, .int p2, va_rf r55, .int x16, va_rf (some o)]) (c_M_front e_x56) ml_1336 cm_M_front (Nat.le_trans (Nat.le_of_ble_eq_true rfl) hR1) (Nat.le_trans (Nat.le_of_ble_eq_true rfl) hR2) rfl rfl (by simp only [List.map_cons, List.map_nil, List.sum_cons, List.sum_nil, cat_rf]; exact Nat.le_of_ble_eq_true rfl) dM_actFrom_307 ?_
        replace hf := bd1_s hf
        obtain ⟨x57, e_x57, hf⟩ := hf
        refine ax_callS (As := [.int p2, .int x12, .int (0 : Int32), .int x56]) (rest := [va_rf r55, .int x16, va_rf (some o)]) (c_M_place e_x57) ml_1246 cm_M_place (Nat.le_trans (Nat.le_of_ble_eq_true rfl) hR1) (Nat.le_trans (Nat.le_of_ble_eq_true rfl) hR2) rfl rfl (by simp only [List.map_cons, List.map_nil, List.sum_cons, List.sum_nil, cat_rf]; exact Nat.le_of_ble_eq_true rfl) dM_actFrom_310 ?_
        replace hf := bd1_s hf
        obtain ⟨a58, e_d, hf⟩ := hf
        subst e_d
        replace hf := bd1_s hf
        obtain ⟨x59, e_x59, hf⟩ := hf
        refine ax_iald dM_actFrom_313 e_x59 ?_
        refine ax_iload (i := 6) dM_actFrom_314 rfl ?_
        replace hf := bd1_s hf
        obtain ⟨x60, e_x60, hf⟩ := hf
        refine ax_callS (As := [.int x8]) (rest := [.int x59, .int x16, va_rf (some o)]) (c_M_rest e_x60) ml_1339 cm_M_rest (Nat.le_trans (Nat.le_of_ble_eq_true rfl) hR1) (Nat.le_trans (Nat.le_of_ble_eq_true rfl) hR2) rfl rfl (Nat.le_of_ble_eq_true rfl) dM_actFrom_316 ?_
        refine ax_iload (i := 5) dM_actFrom_319 rfl ?_
        replace hf := bd1_s hf
        obtain ⟨x61, e_x61, hf⟩ := hf
        refine ax_callS (As := [.int x16, .int x59, .int x60, .int x4]) (rest := [va_rf (some o)]) (c_M_code e_x61) ml_1329 cm_M_code (Nat.le_trans (Nat.le_of_ble_eq_true rfl) hR1) (Nat.le_trans (Nat.le_of_ble_eq_true rfl) hR2) rfl rfl (Nat.le_of_ble_eq_true rfl) dM_actFrom_321 ?_
        refine ax_iload (i := 4) dM_actFrom_324 rfl ?_
        refine ax_bipush (17 : Int32) dM_actFrom_326 k8_17 ?_
        replace hf := bd1_s hf
        obtain ⟨h62, e_h62, hf⟩ := hf
        obtain ⟨k_e_h62, e_h62⟩ := cv_s e_h62
        refine ax_callV (As := [.int x61, .int p4, .int (17 : Int32)]) (rest := []) (c_M_come e_h62) ml_1332 cm_M_come rfl k_e_h62 (Nat.le_trans (Nat.le_of_ble_eq_true rfl) hR1) (Nat.le_trans (Nat.le_of_ble_eq_true rfl) hR2) rfl rfl (Nat.le_of_ble_eq_true rfl) dM_actFrom_328 ?_
        cases hf
        exact Hr _ _ dM_actFrom_331
    · refine ax_if_leT 331 dM_actFrom_270 (by decide) hc ?_
      cases hf
      exact Hr _ _ dM_actFrom_331
  replace hf := hT
  clear hT
  replace hf := ite_c hf
  rcases hf with ⟨hc, hf⟩ | ⟨hc, hf⟩
  · refine ax_if_leF 268 dM_actFrom_207 (by decide) hc ?_
    refine ax_aload_n (i := 0) (some o) dM_actFrom_210 rfl rfl ?_
    replace hf := bd1_s hf
    obtain ⟨r36, e_r36, hf⟩ := hf
    refine ax_getR fl_1017 rfl dM_actFrom_211 e_r36 ?_
    refine ax_iload_n (i := 1) dM_actFrom_214 rfl rfl ?_
    refine ax_iload (i := 8) dM_actFrom_215 rfl ?_
    refine ax_iconst (0 : Int32) dM_actFrom_217 k32_0 ?_
    refine ax_iload (i := 5) dM_actFrom_218 rfl ?_
    replace hf := bd1_s hf
    obtain ⟨x37, e_x37, hf⟩ := hf
    refine ax_callS (As := [.int x4]) (rest := [.int (0 : Int32), .int x16, .int p1, va_rf r36]) (c_M_front e_x37) ml_1336 cm_M_front (Nat.le_trans (Nat.le_of_ble_eq_true rfl) hR1) (Nat.le_trans (Nat.le_of_ble_eq_true rfl) hR2) rfl rfl (by simp only [List.map_cons, List.map_nil, List.sum_cons, List.sum_nil, cat_rf]; exact Nat.le_of_ble_eq_true rfl) dM_actFrom_220 ?_
    replace hf := bd1_s hf
    obtain ⟨x38, e_x38, hf⟩ := hf
    refine ax_callS (As := [.int p1, .int x16, .int (0 : Int32), .int x37]) (rest := [va_rf r36]) (c_M_place e_x38) ml_1246 cm_M_place (Nat.le_trans (Nat.le_of_ble_eq_true rfl) hR1) (Nat.le_trans (Nat.le_of_ble_eq_true rfl) hR2) rfl rfl (by simp only [List.map_cons, List.map_nil, List.sum_cons, List.sum_nil, cat_rf]; exact Nat.le_of_ble_eq_true rfl) dM_actFrom_223 ?_
    replace hf := bd1_s hf
    obtain ⟨a39, e_d, hf⟩ := hf
    subst e_d
    replace hf := bd1_s hf
    obtain ⟨x40, e_x40, hf⟩ := hf
    refine ax_iald dM_actFrom_226 e_x40 ?_
    refine ax_iconst (-1 : Int32) dM_actFrom_227 k32_m1 ?_
    replace hf := ite_c hf
    rcases hf with ⟨hc, hf⟩ | ⟨hc, hf⟩
    · refine ax_icmp_eqT 268 dM_actFrom_228 (by decide) hc ?_
      refine ax_mask [true, false, true, true, true, true, true, true, true, true, true] rfl [some (va_rf (some o)), none, some (.int p2), none, some (.int p4), some (.int x4), some (.int x8), some (.int x12), some (.int x16), none, none] rfl ?_
      cases hf
      exact K
    · refine ax_icmp_eqF 268 dM_actFrom_228 (by decide) hc ?_
      refine ax_aload_n (i := 0) (some o) dM_actFrom_231 rfl rfl ?_
      refine ax_aload_n (i := 0) (some o) dM_actFrom_232 rfl rfl ?_
      replace hf := bd1_s hf
      obtain ⟨r41, e_r41, hf⟩ := hf
      refine ax_getR fl_1017 rfl dM_actFrom_233 e_r41 ?_
      refine ax_iload_n (i := 1) dM_actFrom_236 rfl rfl ?_
      refine ax_iload (i := 8) dM_actFrom_237 rfl ?_
      refine ax_iconst (0 : Int32) dM_actFrom_239 k32_0 ?_
      refine ax_iload (i := 5) dM_actFrom_240 rfl ?_
      replace hf := bd1_s hf
      obtain ⟨x42, e_x42, hf⟩ := hf
      refine ax_callS (As := [.int x4]) (rest := [.int (0 : Int32), .int x16, .int p1, va_rf r41, va_rf (some o)]) (c_M_front e_x42) ml_1336 cm_M_front (Nat.le_trans (Nat.le_of_ble_eq_true rfl) hR1) (Nat.le_trans (Nat.le_of_ble_eq_true rfl) hR2) rfl rfl (by simp only [List.map_cons, List.map_nil, List.sum_cons, List.sum_nil, cat_rf]; exact Nat.le_of_ble_eq_true rfl) dM_actFrom_242 ?_
      replace hf := bd1_s hf
      obtain ⟨x43, e_x43, hf⟩ := hf
      refine ax_callS (As := [.int p1, .int x16, .int (0 : Int32), .int x42]) (rest := [va_rf r41, va_rf (some o)]) (c_M_place e_x43) ml_1246 cm_M_place (Nat.le_trans (Nat.le_of_ble_eq_true rfl) hR1) (Nat.le_trans (Nat.le_of_ble_eq_true rfl) hR2) rfl rfl (by simp only [List.map_cons, List.map_nil, List.sum_cons, List.sum_nil, cat_rf]; exact Nat.le_of_ble_eq_true rfl) dM_actFrom_245 ?_
      replace hf := bd1_s hf
      obtain ⟨a44, e_d, hf⟩ := hf
      subst e_d
      replace hf := bd1_s hf
      obtain ⟨x45, e_x45, hf⟩ := hf
      refine ax_iald dM_actFrom_248 e_x45 ?_
      refine ax_iload (i := 7) dM_actFrom_249 rfl ?_
      refine ax_iload (i := 6) dM_actFrom_251 rfl ?_
      refine ax_iload (i := 5) dM_actFrom_253 rfl ?_
      replace hf := bd1_s hf
      obtain ⟨x46, e_x46, hf⟩ := hf
      refine ax_callS (As := [.int x4]) (rest := [.int x8, .int x12, .int x45, va_rf (some o)]) (c_M_rest e_x46) ml_1339 cm_M_rest (Nat.le_trans (Nat.le_of_ble_eq_true rfl) hR1) (Nat.le_trans (Nat.le_of_ble_eq_true rfl) hR2) rfl rfl (Nat.le_of_ble_eq_true rfl) dM_actFrom_255 ?_
      replace hf := bd1_s hf
      obtain ⟨x47, e_x47, hf⟩ := hf
      refine ax_callS (As := [.int x45, .int x12, .int x8, .int x46]) (rest := [va_rf (some o)]) (c_M_code e_x47) ml_1329 cm_M_code (Nat.le_trans (Nat.le_of_ble_eq_true rfl) hR1) (Nat.le_trans (Nat.le_of_ble_eq_true rfl) hR2) rfl rfl (Nat.le_of_ble_eq_true rfl) dM_actFrom_258 ?_
      refine ax_iload (i := 4) dM_actFrom_261 rfl ?_
      refine ax_bipush (16 : Int32) dM_actFrom_263 k8_16 ?_
      replace hf := bd1_s hf
      obtain ⟨h48, e_h48, hf⟩ := hf
      obtain ⟨k_e_h48, e_h48⟩ := cv_s e_h48
      refine ax_callV (As := [.int x47, .int p4, .int (16 : Int32)]) (rest := []) (c_M_come e_h48) ml_1332 cm_M_come rfl k_e_h48 (Nat.le_trans (Nat.le_of_ble_eq_true rfl) hR1) (Nat.le_trans (Nat.le_of_ble_eq_true rfl) hR2) rfl rfl (Nat.le_of_ble_eq_true rfl) dM_actFrom_265 ?_
      refine ax_mask [true, false, true, true, true, true, true, true, true, true, true] rfl [some (va_rf (some o)), none, some (.int p2), none, some (.int p4), some (.int x4), some (.int x8), some (.int x12), some (.int x16), none, none] rfl ?_
      cases hf
      exact K
  · refine ax_if_leT 268 dM_actFrom_207 (by decide) hc ?_
    refine ax_mask [true, false, true, true, true, true, true, true, true, true, true] rfl [some (va_rf (some o)), none, some (.int p2), none, some (.int p4), some (.int x4), some (.int x8), some (.int x12), some (.int x16), none, none] rfl ?_
    cases hf
    exact K
theorem c_M_actFrom {l : Launch} {E : EN} {h0 : AH} {o : Nat} {p1 : Int32} {p2 : Int32} {p3 : Int32} {p4 : Int32} {hF : AH} (hf : f_M_actFrom h0 o p1 p2 p3 p4 = some hF) : AM l E 3 mi_M_actFrom [va_rf (some o), .int p1, .int p2, .int p3, .int p4] h0 none hF :=
  am_of2 [(va_rf (some o), false), (.int p1, false), (.int p2, false), (.int p3, false), (.int p4, false)] 6 ⟨cat_rf _, rfl, rfl, rfl, rfl, trivial⟩ rfl rfl (v_M_actFrom (Nat.le_refl _) (Nat.le_refl _) (fun pc L hd => ax_vret rfl hd rfl) hf)
theorem w_M_walkQueues_L23 {l : Launch} {E : EN} {R : Room} {B : (Nat × Nat) × (Nat × Nat)} {Qf : QF} {ρ : Type} {res : ρ} (hR1 : 4 ≤ R.frames) (hR2 : 256 ≤ R.locals) {y0 : Nat} {y1 : Int32} {y2 : Int32} {y3 : Int32} {k : Int32 → AH → Option (ρ)} (hk : ∀ (z4 : Int32) (h : AH), k z4 h = some res → AW l E mi_M_walkQueues R B Qf 163 [some (va_rf (some y0)), none, none, none, some (.int z4), none, none, none] [] h) : ∀ (n : Nat) (z4 : Int32) (z5 : Int32) (h : AH), f_M_walkQueues_L23 y0 y1 y2 y3 k n z4 z5 h = some res → AW l E mi_M_walkQueues R B Qf 23 [some (va_rf (some y0)), some (.int y1), some (.int y2), some (.int y3), some (.int z4), some (.int z5), none, none] [] h := by
  intro n
  induction n with
  | zero => intro z4 z5 h hf; cases hf
  | succ n ih =>
    intro z4 z5 h hf
    rw [f_M_walkQueues_L23] at hf
    refine ax_iload (i := 5) dM_walkQueues_23 rfl ?_
    refine ax_aload_n (i := 0) (some y0) dM_walkQueues_25 rfl rfl ?_
    replace hf := bd1_s hf
    obtain ⟨x5, e_x5, hf⟩ := hf
    refine ax_getI fl_1051 rfl dM_walkQueues_26 e_x5 ?_
    replace hf := ite_c hf
    rcases hf with ⟨hc, hf⟩ | ⟨hc, hf⟩
    · refine ax_icmp_geF 163 dM_walkQueues_29 (by decide) hc ?_
      refine ax_aload_n (i := 0) (some y0) dM_walkQueues_32 rfl rfl ?_
      replace hf := bd1_s hf
      obtain ⟨x6, e_x6, hf⟩ := hf
      refine ax_getI fl_1061 rfl dM_walkQueues_33 e_x6 ?_
      replace hf := ite_c hf
      rcases hf with ⟨hc, hf⟩ | ⟨hc, hf⟩
      · refine ax_if_neF 163 dM_walkQueues_36 (by decide) hc ?_
        refine ax_aload_n (i := 0) (some y0) dM_walkQueues_39 rfl rfl ?_
        refine ax_iload_n (i := 1) dM_walkQueues_40 rfl rfl ?_
        refine ax_iload_n (i := 2) dM_walkQueues_41 rfl rfl ?_
        refine ax_iload_n (i := 3) dM_walkQueues_42 rfl rfl ?_
        refine ax_iload (i := 5) dM_walkQueues_43 rfl ?_
        replace hf := bd1_s hf
        obtain ⟨h7, e_h7, hf⟩ := hf
        obtain ⟨k_e_h7, e_h7⟩ := cv_s e_h7
        refine ax_callV (As := [.int y1, .int y2, .int y3, .int z5]) (rest := []) (c_M_actFrom e_h7) ml_1318 cm_M_actFrom rfl k_e_h7 (Nat.le_trans (Nat.le_of_ble_eq_true rfl) hR1) (Nat.le_trans (Nat.le_of_ble_eq_true rfl) hR2) rfl rfl (Nat.le_of_ble_eq_true rfl) dM_walkQueues_45 ?_
        refine ax_aload_n (i := 0) (some y0) dM_walkQueues_48 rfl rfl ?_
        replace hf := bd1_s hf
        obtain ⟨r8, e_r8, hf⟩ := hf
        refine ax_getR fl_1052 rfl dM_walkQueues_49 e_r8 ?_
        refine ax_iload (i := 5) dM_walkQueues_52 rfl ?_
        replace hf := bd1_s hf
        obtain ⟨a9, e_d, hf⟩ := hf
        subst e_d
        replace hf := bd1_s hf
        obtain ⟨x10, e_x10, hf⟩ := hf
        refine ax_iald dM_walkQueues_54 e_x10 ?_
        refine ax_sipush (5329 : Int32) dM_walkQueues_55 k16_5329 ?_
        refine ax_irem dM_walkQueues_58 (by decide) ?_
        replace hf := bd1_s hf
        obtain ⟨x11, hT, hf⟩ := hf
        have K : AW l E mi_M_walkQueues R B Qf 67 [some (va_rf (some y0)), some (.int y1), some (.int y2), some (.int y3), some (.int z4), some (.int z5), none, none] [.int x11] h7 := by
          clear hT
          refine ax_istore (i := 6) [some (va_rf (some y0)), some (.int y1), some (.int y2), some (.int y3), some (.int z4), some (.int z5), some (.int x11), none] dM_walkQueues_67 (Nat.le_of_ble_eq_true rfl) (Or.inr (c1i rfl)) rfl ?_
          refine ax_iload (i := 6) dM_walkQueues_69 rfl ?_
          replace hf := bd1_s hf
          obtain ⟨x24, hT, hf⟩ := hf
          have K : AW l E mi_M_walkQueues R B Qf 129 [some (va_rf (some y0)), some (.int y1), some (.int y2), some (.int y3), some (.int z4), some (.int z5), none, none] [.int x24] h7 := by
            clear hT
            refine ax_istore (i := 7) [some (va_rf (some y0)), some (.int y1), some (.int y2), some (.int y3), some (.int z4), some (.int z5), none, some (.int x24)] dM_walkQueues_129 (Nat.le_of_ble_eq_true rfl) (Or.inr (c1n rfl)) rfl ?_
            refine ax_iload (i := 4) dM_walkQueues_131 rfl ?_
            replace hf := ite_c hf
            rcases hf with ⟨hc, hf⟩ | ⟨hc, hf⟩
            · refine ax_if_neF 157 dM_walkQueues_133 (by decide) hc ?_
              refine ax_aload_n (i := 0) (some y0) dM_walkQueues_136 rfl rfl ?_
              replace hf := bd1_s hf
              obtain ⟨x25, e_x25, hf⟩ := hf
              refine ax_getI fl_1059 rfl dM_walkQueues_137 e_x25 ?_
              replace hf := ite_c hf
              rcases hf with ⟨hc, hf⟩ | ⟨hc, hf⟩
              · refine ax_if_neF 157 dM_walkQueues_140 (by decide) hc ?_
                refine ax_iload (i := 7) dM_walkQueues_143 rfl ?_
                replace hf := ite_c hf
                rcases hf with ⟨hc, hf⟩ | ⟨hc, hf⟩
                · refine ax_if_neF 157 dM_walkQueues_145 (by decide) hc ?_
                  refine ax_iconst (1 : Int32) dM_walkQueues_148 k32_1 ?_
                  refine ax_istore (i := 4) [some (va_rf (some y0)), some (.int y1), some (.int y2), some (.int y3), some (.int (1 : Int32)), some (.int z5), none, some (.int x24)] dM_walkQueues_149 (Nat.le_of_ble_eq_true rfl) (Or.inr (c1i rfl)) rfl ?_
                  refine ax_aload_n (i := 0) (some y0) dM_walkQueues_151 rfl rfl ?_
                  refine ax_iload (i := 5) dM_walkQueues_152 rfl ?_
                  replace hf := bd1_s hf
                  obtain ⟨h26, e_h26, hf⟩ := hf
                  refine ax_putI fw_1060 rfl rfl dM_walkQueues_154 e_h26 ?_
                  refine ax_iinc (i := 5) (z5 + (1 : Int32)) [some (va_rf (some y0)), some (.int y1), some (.int y2), some (.int y3), some (.int (1 : Int32)), some (.int (z5 + (1 : Int32))), none, some (.int x24)] dM_walkQueues_157 rfl (iic k32_1) (Or.inr (c1i rfl)) rfl ?_
                  refine ax_goto 23 dM_walkQueues_160 (by decide) ?_
                  refine ax_mask [true, true, true, true, true, true, true, false] rfl [some (va_rf (some y0)), some (.int y1), some (.int y2), some (.int y3), some (.int (1 : Int32)), some (.int (z5 + (1 : Int32))), none, none] rfl ?_
                  exact ih (1 : Int32) (z5 + (1 : Int32)) h26 hf
                · refine ax_if_neT 157 dM_walkQueues_145 (by decide) hc ?_
                  refine ax_iinc (i := 5) (z5 + (1 : Int32)) [some (va_rf (some y0)), some (.int y1), some (.int y2), some (.int y3), some (.int z4), some (.int (z5 + (1 : Int32))), none, some (.int x24)] dM_walkQueues_157 rfl (iic k32_1) (Or.inr (c1i rfl)) rfl ?_
                  refine ax_goto 23 dM_walkQueues_160 (by decide) ?_
                  refine ax_mask [true, true, true, true, true, true, true, false] rfl [some (va_rf (some y0)), some (.int y1), some (.int y2), some (.int y3), some (.int z4), some (.int (z5 + (1 : Int32))), none, none] rfl ?_
                  exact ih z4 (z5 + (1 : Int32)) h7 hf
              · refine ax_if_neT 157 dM_walkQueues_140 (by decide) hc ?_
                refine ax_iinc (i := 5) (z5 + (1 : Int32)) [some (va_rf (some y0)), some (.int y1), some (.int y2), some (.int y3), some (.int z4), some (.int (z5 + (1 : Int32))), none, some (.int x24)] dM_walkQueues_157 rfl (iic k32_1) (Or.inr (c1i rfl)) rfl ?_
                refine ax_goto 23 dM_walkQueues_160 (by decide) ?_
                refine ax_mask [true, true, true, true, true, true, true, false] rfl [some (va_rf (some y0)), some (.int y1), some (.int y2), some (.int y3), some (.int z4), some (.int (z5 + (1 : Int32))), none, none] rfl ?_
                exact ih z4 (z5 + (1 : Int32)) h7 hf
            · refine ax_if_neT 157 dM_walkQueues_133 (by decide) hc ?_
              refine ax_iinc (i := 5) (z5 + (1 : Int32)) [some (va_rf (some y0)), some (.int y1), some (.int y2), some (.int y3), some (.int z4), some (.int (z5 + (1 : Int32))), none, some (.int x24)] dM_walkQueues_157 rfl (iic k32_1) (Or.inr (c1i rfl)) rfl ?_
              refine ax_goto 23 dM_walkQueues_160 (by decide) ?_
              refine ax_mask [true, true, true, true, true, true, true, false] rfl [some (va_rf (some y0)), some (.int y1), some (.int y2), some (.int y3), some (.int z4), some (.int (z5 + (1 : Int32))), none, none] rfl ?_
              exact ih z4 (z5 + (1 : Int32)) h7 hf
          replace hf := hT
          clear hT
          replace hf := ite_c hf
          rcases hf with ⟨hc, hf⟩ | ⟨hc, hf⟩
          · refine ax_if_eqT 128 dM_walkQueues_71 (by decide) hc ?_
            refine ax_iconst (0 : Int32) dM_walkQueues_128 k32_0 ?_
            refine ax_mask [true, true, true, true, true, true, false, true] rfl [some (va_rf (some y0)), some (.int y1), some (.int y2), some (.int y3), some (.int z4), some (.int z5), none, none] rfl ?_
            cases hf
            exact K
          · refine ax_if_eqF 128 dM_walkQueues_71 (by decide) hc ?_
            refine ax_aload_n (i := 0) (some y0) dM_walkQueues_74 rfl rfl ?_
            replace hf := bd1_s hf
            obtain ⟨r12, e_r12, hf⟩ := hf
            refine ax_getR fl_1018 rfl dM_walkQueues_75 e_r12 ?_
            refine ax_bipush (25 : Int32) dM_walkQueues_78 k8_25 ?_
            refine ax_iload_n (i := 1) dM_walkQueues_80 rfl rfl ?_
            refine ax_imul dM_walkQueues_81 ?_
            refine ax_aload_n (i := 0) (some y0) dM_walkQueues_82 rfl rfl ?_
            replace hf := bd1_s hf
            obtain ⟨r13, e_r13, hf⟩ := hf
            refine ax_getR fl_1052 rfl dM_walkQueues_83 e_r13 ?_
            refine ax_iload (i := 5) dM_walkQueues_86 rfl ?_
            replace hf := bd1_s hf
            obtain ⟨a14, e_d, hf⟩ := hf
            subst e_d
            replace hf := bd1_s hf
            obtain ⟨x15, e_x15, hf⟩ := hf
            refine ax_iald dM_walkQueues_88 e_x15 ?_
            refine ax_ldc w_1322 dM_walkQueues_89 ?_
            refine ax_idiv dM_walkQueues_91 (by decide) ?_
            refine ax_iadd dM_walkQueues_92 ?_
            replace hf := bd1_s hf
            obtain ⟨a16, e_d, hf⟩ := hf
            subst e_d
            replace hf := bd1_s hf
            obtain ⟨x17, e_x17, hf⟩ := hf
            refine ax_zald dM_walkQueues_93 e_x17 ?_
            replace hf := ite_c hf
            rcases hf with ⟨hc, hf⟩ | ⟨hc, hf⟩
            · refine ax_if_eqT 128 dM_walkQueues_94 (by decide) hc ?_
              refine ax_iconst (0 : Int32) dM_walkQueues_128 k32_0 ?_
              refine ax_mask [true, true, true, true, true, true, false, true] rfl [some (va_rf (some y0)), some (.int y1), some (.int y2), some (.int y3), some (.int z4), some (.int z5), none, none] rfl ?_
              cases hf
              exact K
            · refine ax_if_eqF 128 dM_walkQueues_94 (by decide) hc ?_
              refine ax_aload_n (i := 0) (some y0) dM_walkQueues_97 rfl rfl ?_
              replace hf := bd1_s hf
              obtain ⟨r18, e_r18, hf⟩ := hf
              refine ax_getR fl_1018 rfl dM_walkQueues_98 e_r18 ?_
              refine ax_bipush (25 : Int32) dM_walkQueues_101 k8_25 ?_
              refine ax_iload_n (i := 2) dM_walkQueues_103 rfl rfl ?_
              refine ax_imul dM_walkQueues_104 ?_
              refine ax_aload_n (i := 0) (some y0) dM_walkQueues_105 rfl rfl ?_
              replace hf := bd1_s hf
              obtain ⟨r19, e_r19, hf⟩ := hf
              refine ax_getR fl_1052 rfl dM_walkQueues_106 e_r19 ?_
              refine ax_iload (i := 5) dM_walkQueues_109 rfl ?_
              replace hf := bd1_s hf
              obtain ⟨a20, e_d, hf⟩ := hf
              subst e_d
              replace hf := bd1_s hf
              obtain ⟨x21, e_x21, hf⟩ := hf
              refine ax_iald dM_walkQueues_111 e_x21 ?_
              refine ax_sipush (5329 : Int32) dM_walkQueues_112 k16_5329 ?_
              refine ax_idiv dM_walkQueues_115 (by decide) ?_
              refine ax_bipush (25 : Int32) dM_walkQueues_116 k8_25 ?_
              refine ax_irem dM_walkQueues_118 (by decide) ?_
              refine ax_iadd dM_walkQueues_119 ?_
              replace hf := bd1_s hf
              obtain ⟨a22, e_d, hf⟩ := hf
              subst e_d
              replace hf := bd1_s hf
              obtain ⟨x23, e_x23, hf⟩ := hf
              refine ax_zald dM_walkQueues_120 e_x23 ?_
              replace hf := ite_c hf
              rcases hf with ⟨hc, hf⟩ | ⟨hc, hf⟩
              · refine ax_if_eqT 128 dM_walkQueues_121 (by decide) hc ?_
                refine ax_iconst (0 : Int32) dM_walkQueues_128 k32_0 ?_
                refine ax_mask [true, true, true, true, true, true, false, true] rfl [some (va_rf (some y0)), some (.int y1), some (.int y2), some (.int y3), some (.int z4), some (.int z5), none, none] rfl ?_
                cases hf
                exact K
              · refine ax_if_eqF 128 dM_walkQueues_121 (by decide) hc ?_
                refine ax_iconst (1 : Int32) dM_walkQueues_124 k32_1 ?_
                refine ax_goto 129 dM_walkQueues_125 (by decide) ?_
                refine ax_mask [true, true, true, true, true, true, false, true] rfl [some (va_rf (some y0)), some (.int y1), some (.int y2), some (.int y3), some (.int z4), some (.int z5), none, none] rfl ?_
                cases hf
                exact K
        replace hf := hT
        clear hT
        replace hf := ite_c hf
        rcases hf with ⟨hc, hf⟩ | ⟨hc, hf⟩
        · refine ax_if_neF 66 dM_walkQueues_59 (by decide) hc ?_
          refine ax_iconst (1 : Int32) dM_walkQueues_62 k32_1 ?_
          refine ax_goto 67 dM_walkQueues_63 (by decide) ?_
          cases hf
          exact K
        · refine ax_if_neT 66 dM_walkQueues_59 (by decide) hc ?_
          refine ax_iconst (0 : Int32) dM_walkQueues_66 k32_0 ?_
          cases hf
          exact K
      · refine ax_if_neT 163 dM_walkQueues_36 (by decide) hc ?_
        refine ax_mask [true, false, false, false, true, false, true, true] rfl [some (va_rf (some y0)), none, none, none, some (.int z4), none, none, none] rfl ?_
        exact hk z4 h hf
    · refine ax_icmp_geT 163 dM_walkQueues_29 (by decide) hc ?_
      refine ax_mask [true, false, false, false, true, false, true, true] rfl [some (va_rf (some y0)), none, none, none, some (.int z4), none, none, none] rfl ?_
      exact hk z4 h hf
theorem v_M_walkQueues {l : Launch} {E : EN} {R : Room} {B : (Nat × Nat) × (Nat × Nat)} {Qf : QF} {h0 : AH} {o : Nat} {p1 : Int32} {p2 : Int32} {p3 : Int32} {r : Int32} {hF : AH} (hR1 : 4 ≤ R.frames) (hR2 : 256 ≤ R.locals) (Hr : ∀ (pc : Nat) (L : List (Option Value)), decode mi_M_walkQueues.2.1 pc = .ok (.ireturn, 1) → AW l E mi_M_walkQueues R B Qf pc L [.int r] hF) (hf : f_M_walkQueues h0 o p1 p2 p3 = some (r, hF)) : AW l E mi_M_walkQueues R B Qf 0 [some (va_rf (some o)), some (.int p1), some (.int p2), some (.int p3), none, none, none, none] [] h0 := by
  unfold f_M_walkQueues at hf
  refine ax_aload_n (i := 0) (some o) dM_walkQueues_0 rfl rfl ?_
  replace hf := bd1_s hf
  obtain ⟨h1, e_h1, hf⟩ := hf
  obtain ⟨k_e_h1, e_h1⟩ := cv_s e_h1
  refine ax_callV (As := []) (rest := []) (c_M_restart e_h1) ml_1293 cm_M_restart rfl k_e_h1 (Nat.le_trans (Nat.le_of_ble_eq_true rfl) hR1) (Nat.le_trans (Nat.le_of_ble_eq_true rfl) hR2) rfl rfl (Nat.le_of_ble_eq_true rfl) dM_walkQueues_1 ?_
  refine ax_aload_n (i := 0) (some o) dM_walkQueues_4 rfl rfl ?_
  refine ax_iconst (0 : Int32) dM_walkQueues_5 k32_0 ?_
  replace hf := bd1_s hf
  obtain ⟨h2, e_h2, hf⟩ := hf
  refine ax_putZ fw_1061 rfl rfl dM_walkQueues_6 e_h2 ?_
  refine ax_aload_n (i := 0) (some o) dM_walkQueues_9 rfl rfl ?_
  refine ax_iconst (0 : Int32) dM_walkQueues_10 k32_0 ?_
  refine ax_iconst (0 : Int32) dM_walkQueues_11 k32_0 ?_
  refine ax_iconst (0 : Int32) dM_walkQueues_12 k32_0 ?_
  replace hf := bd2_s hf
  obtain ⟨x3, h4, e_x3, hf⟩ := hf
  obtain ⟨k_e_x3, e_x3⟩ := cv_s e_x3
  refine ax_callV (As := [.int (0 : Int32), .int (0 : Int32), .int (0 : Int32)]) (rest := []) (c_M_isNew e_x3) ml_1297 cm_M_isNew rfl k_e_x3 (Nat.le_trans (Nat.le_of_ble_eq_true rfl) hR1) (Nat.le_trans (Nat.le_of_ble_eq_true rfl) hR2) rfl rfl (Nat.le_of_ble_eq_true rfl) dM_walkQueues_13 ?_
  refine ax_pop dM_walkQueues_16 rfl ?_
  refine ax_iconst (0 : Int32) dM_walkQueues_17 k32_0 ?_
  refine ax_istore (i := 4) [some (va_rf (some o)), some (.int p1), some (.int p2), some (.int p3), some (.int (0 : Int32)), none, none, none] dM_walkQueues_18 (Nat.le_of_ble_eq_true rfl) (Or.inr (c1i rfl)) rfl ?_
  refine ax_iconst (0 : Int32) dM_walkQueues_20 k32_0 ?_
  refine ax_istore (i := 5) [some (va_rf (some o)), some (.int p1), some (.int p2), some (.int p3), some (.int (0 : Int32)), some (.int (0 : Int32)), none, none] dM_walkQueues_21 (Nat.le_of_ble_eq_true rfl) (Or.inr (c1i rfl)) rfl ?_
  refine w_M_walkQueues_L23 hR1 hR2 (fun x27 h28 hf => ?_) FU (0 : Int32) (0 : Int32) h4 hf
  refine ax_aload_n (i := 0) (some o) dM_walkQueues_163 rfl rfl ?_
  replace hf := bd1_s hf
  obtain ⟨x29, e_x29, hf⟩ := hf
  refine ax_getI fl_1061 rfl dM_walkQueues_164 e_x29 ?_
  replace hf := ite_c hf
  rcases hf with ⟨hc, hf⟩ | ⟨hc, hf⟩
  · refine ax_if_eqT 174 dM_walkQueues_167 (by decide) hc ?_
    refine ax_iload (i := 4) dM_walkQueues_174 rfl ?_
    cases hf
    exact Hr _ _ dM_walkQueues_176
  · refine ax_if_eqF 174 dM_walkQueues_167 (by decide) hc ?_
    refine ax_iconst (3 : Int32) dM_walkQueues_170 k32_3 ?_
    refine ax_goto 176 dM_walkQueues_171 (by decide) ?_
    cases hf
    exact Hr _ _ dM_walkQueues_176
theorem c_M_walkQueues {l : Launch} {E : EN} {h0 : AH} {o : Nat} {p1 : Int32} {p2 : Int32} {p3 : Int32} {r : Int32} {hF : AH} (hf : f_M_walkQueues h0 o p1 p2 p3 = some (r, hF)) : AM l E 4 mi_M_walkQueues [va_rf (some o), .int p1, .int p2, .int p3] h0 (some (.int r)) hF :=
  am_of2 [(va_rf (some o), false), (.int p1, false), (.int p2, false), (.int p3, false)] 4 ⟨cat_rf _, rfl, rfl, rfl, trivial⟩ rfl rfl (v_M_walkQueues (Nat.le_refl _) (Nat.le_refl _) (fun pc L hd => ax_iret rfl hd rfl) hf)
theorem w_M_traceTo_L7 {l : Launch} {E : EN} {R : Room} {B : (Nat × Nat) × (Nat × Nat)} {Qf : QF} {ρ : Type} {res : ρ} (hR1 : 1 ≤ R.frames) (hR2 : 64 ≤ R.locals) {y0 : Nat} {y1 : Int32} {k : AH → Option (ρ)} (hk : ∀ (h : AH), k h = some res → AW l E mi_M_traceTo R B Qf 31 [some (va_rf (some y0)), some (.int y1), none, none] [] h) : ∀ (n : Nat) (z2 : Int32) (h : AH), f_M_traceTo_L7 y0 y1 k n z2 h = some res → AW l E mi_M_traceTo R B Qf 7 [some (va_rf (some y0)), some (.int y1), some (.int z2), none] [] h := by
  intro n
  induction n with
  | zero => intro z2 h hf; cases hf
  | succ n ih =>
    intro z2 h hf
    rw [f_M_traceTo_L7] at hf
    refine ax_iload_n (i := 2) dM_traceTo_7 rfl rfl ?_
    replace hf := ite_c hf
    rcases hf with ⟨hc, hf⟩ | ⟨hc, hf⟩
    · refine ax_if_leF 31 dM_traceTo_8 (by decide) hc ?_
      refine ax_aload_n (i := 0) (some y0) dM_traceTo_11 rfl rfl ?_
      refine ax_dup dM_traceTo_12 rfl ?_
      replace hf := bd1_s hf
      obtain ⟨x2, e_x2, hf⟩ := hf
      refine ax_getI fl_1049 rfl dM_traceTo_13 e_x2 ?_
      refine ax_iconst (1 : Int32) dM_traceTo_16 k32_1 ?_
      refine ax_iadd dM_traceTo_17 ?_
      replace hf := bd1_s hf
      obtain ⟨h3, e_h3, hf⟩ := hf
      refine ax_putI fw_1049 rfl rfl dM_traceTo_18 e_h3 ?_
      refine ax_aload_n (i := 0) (some y0) dM_traceTo_21 rfl rfl ?_
      replace hf := bd1_s hf
      obtain ⟨r4, e_r4, hf⟩ := hf
      refine ax_getR fl_1053 rfl dM_traceTo_22 e_r4 ?_
      refine ax_iload_n (i := 2) dM_traceTo_25 rfl rfl ?_
      replace hf := bd1_s hf
      obtain ⟨a5, e_d, hf⟩ := hf
      subst e_d
      replace hf := bd1_s hf
      obtain ⟨x6, e_x6, hf⟩ := hf
      refine ax_iald dM_traceTo_26 e_x6 ?_
      refine ax_istore_n (i := 2) [some (va_rf (some y0)), some (.int y1), some (.int x6), none] dM_traceTo_27 rfl (Nat.le_of_ble_eq_true rfl) (Or.inr (c1i rfl)) rfl ?_
      refine ax_goto 7 dM_traceTo_28 (by decide) ?_
      exact ih x6 h3 hf
    · refine ax_if_leT 31 dM_traceTo_8 (by decide) hc ?_
      refine ax_mask [true, true, false, true] rfl [some (va_rf (some y0)), some (.int y1), none, none] rfl ?_
      exact hk h hf
theorem w_M_traceTo_L38 {l : Launch} {E : EN} {R : Room} {B : (Nat × Nat) × (Nat × Nat)} {Qf : QF} {hF : AH} (hR1 : 1 ≤ R.frames) (hR2 : 64 ≤ R.locals) (Hr : ∀ (pc : Nat) (L : List (Option Value)), decode mi_M_traceTo.2.1 pc = .ok (.return_, 1) → AW l E mi_M_traceTo R B Qf pc L [] hF) {y0 : Nat} : ∀ (n : Nat) (z2 : Int32) (z3 : Int32) (h : AH), f_M_traceTo_L38 y0 n z2 z3 h = some hF → AW l E mi_M_traceTo R B Qf 38 [some (va_rf (some y0)), none, some (.int z2), some (.int z3)] [] h := by
  intro n
  induction n with
  | zero => intro z2 z3 h hf; cases hf
  | succ n ih =>
    intro z2 z3 h hf
    rw [f_M_traceTo_L38] at hf
    refine ax_iload_n (i := 3) dM_traceTo_38 rfl rfl ?_
    replace hf := ite_c hf
    rcases hf with ⟨hc, hf⟩ | ⟨hc, hf⟩
    · refine ax_if_leF 67 dM_traceTo_39 (by decide) hc ?_
      refine ax_iinc (i := 2) (z2 + (-1 : Int32)) [some (va_rf (some y0)), none, some (.int (z2 + (-1 : Int32))), some (.int z3)] dM_traceTo_42 rfl (iic k32_m1) (Or.inr (c1n rfl)) rfl ?_
      refine ax_aload_n (i := 0) (some y0) dM_traceTo_45 rfl rfl ?_
      replace hf := bd1_s hf
      obtain ⟨r9, e_r9, hf⟩ := hf
      refine ax_getR fl_1050 rfl dM_traceTo_46 e_r9 ?_
      refine ax_iload_n (i := 2) dM_traceTo_49 rfl rfl ?_
      refine ax_aload_n (i := 0) (some y0) dM_traceTo_50 rfl rfl ?_
      replace hf := bd1_s hf
      obtain ⟨r10, e_r10, hf⟩ := hf
      refine ax_getR fl_1054 rfl dM_traceTo_51 e_r10 ?_
      refine ax_iload_n (i := 3) dM_traceTo_54 rfl rfl ?_
      replace hf := bd1_s hf
      obtain ⟨a11, e_d, hf⟩ := hf
      subst e_d
      replace hf := bd1_s hf
      obtain ⟨x12, e_x12, hf⟩ := hf
      refine ax_iald dM_traceTo_55 e_x12 ?_
      replace hf := bd1_s hf
      obtain ⟨a13, e_d, hf⟩ := hf
      subst e_d
      replace hf := bd1_s hf
      obtain ⟨h14, e_h14, hf⟩ := hf
      refine ax_iast dM_traceTo_56 e_h14 ?_
      refine ax_aload_n (i := 0) (some y0) dM_traceTo_57 rfl rfl ?_
      replace hf := bd1_s hf
      obtain ⟨r15, e_r15, hf⟩ := hf
      refine ax_getR fl_1053 rfl dM_traceTo_58 e_r15 ?_
      refine ax_iload_n (i := 3) dM_traceTo_61 rfl rfl ?_
      replace hf := bd1_s hf
      obtain ⟨a16, e_d, hf⟩ := hf
      subst e_d
      replace hf := bd1_s hf
      obtain ⟨x17, e_x17, hf⟩ := hf
      refine ax_iald dM_traceTo_62 e_x17 ?_
      refine ax_istore_n (i := 3) [some (va_rf (some y0)), none, some (.int (z2 + (-1 : Int32))), some (.int x17)] dM_traceTo_63 rfl (Nat.le_of_ble_eq_true rfl) (Or.inr (c1i rfl)) rfl ?_
      refine ax_goto 38 dM_traceTo_64 (by decide) ?_
      exact ih (z2 + (-1 : Int32)) x17 h14 hf
    · refine ax_if_leT 67 dM_traceTo_39 (by decide) hc ?_
      cases hf
      exact Hr _ _ dM_traceTo_67
theorem v_M_traceTo {l : Launch} {E : EN} {R : Room} {B : (Nat × Nat) × (Nat × Nat)} {Qf : QF} {h0 : AH} {o : Nat} {p1 : Int32} {hF : AH} (hR1 : 1 ≤ R.frames) (hR2 : 64 ≤ R.locals) (Hr : ∀ (pc : Nat) (L : List (Option Value)), decode mi_M_traceTo.2.1 pc = .ok (.return_, 1) → AW l E mi_M_traceTo R B Qf pc L [] hF) (hf : f_M_traceTo h0 o p1 = some hF) : AW l E mi_M_traceTo R B Qf 0 [some (va_rf (some o)), some (.int p1), none, none] [] h0 := by
  unfold f_M_traceTo at hf
  refine ax_aload_n (i := 0) (some o) dM_traceTo_0 rfl rfl ?_
  refine ax_iconst (0 : Int32) dM_traceTo_1 k32_0 ?_
  replace hf := bd1_s hf
  obtain ⟨h1, e_h1, hf⟩ := hf
  refine ax_putI fw_1049 rfl rfl dM_traceTo_2 e_h1 ?_
  refine ax_iload_n (i := 1) dM_traceTo_5 rfl rfl ?_
  refine ax_istore_n (i := 2) [some (va_rf (some o)), some (.int p1), some (.int p1), none] dM_traceTo_6 rfl (Nat.le_of_ble_eq_true rfl) (Or.inr (c1i rfl)) rfl ?_
  refine w_M_traceTo_L7 hR1 hR2 (fun h7 hf => ?_) FU p1 h1 hf
  refine ax_aload_n (i := 0) (some o) dM_traceTo_31 rfl rfl ?_
  replace hf := bd1_s hf
  obtain ⟨x8, e_x8, hf⟩ := hf
  refine ax_getI fl_1049 rfl dM_traceTo_32 e_x8 ?_
  refine ax_istore_n (i := 2) [some (va_rf (some o)), some (.int p1), some (.int x8), none] dM_traceTo_35 rfl (Nat.le_of_ble_eq_true rfl) (Or.inr (c1i rfl)) rfl ?_
  refine ax_iload_n (i := 1) dM_traceTo_36 rfl rfl ?_
  refine ax_istore_n (i := 3) [some (va_rf (some o)), some (.int p1), some (.int x8), some (.int p1)] dM_traceTo_37 rfl (Nat.le_of_ble_eq_true rfl) (Or.inr (c1i rfl)) rfl ?_
  refine ax_mask [true, false, true, true] rfl [some (va_rf (some o)), none, some (.int x8), some (.int p1)] rfl ?_
  refine w_M_traceTo_L38 hR1 hR2 Hr FU x8 p1 h7 hf
theorem c_M_traceTo {l : Launch} {E : EN} {h0 : AH} {o : Nat} {p1 : Int32} {hF : AH} (hf : f_M_traceTo h0 o p1 = some hF) : AM l E 1 mi_M_traceTo [va_rf (some o), .int p1] h0 none hF :=
  am_of2 [(va_rf (some o), false), (.int p1, false)] 2 ⟨cat_rf _, rfl, trivial⟩ rfl rfl (v_M_traceTo (Nat.le_refl _) (Nat.le_refl _) (fun pc L hd => ax_vret rfl hd rfl) hf)
theorem v_M_join {l : Launch} {E : EN} {R : Room} {B : (Nat × Nat) × (Nat × Nat)} {Qf : QF} {h0 : AH} {o : Nat} {p1 : Int32} {p2 : Int32} {p3 : Int32} {r : Int32} {hF : AH} (hR1 : 5 ≤ R.frames) (hR2 : 320 ≤ R.locals) (Hr : ∀ (pc : Nat) (L : List (Option Value)), decode mi_M_join.2.1 pc = .ok (.ireturn, 1) → AW l E mi_M_join R B Qf pc L [.int r] hF) (hf : f_M_join h0 o p1 p2 p3 = some (r, hF)) : AW l E mi_M_join R B Qf 0 [some (va_rf (some o)), some (.int p1), some (.int p2), some (.int p3), none] [] h0 := by
  unfold f_M_join at hf
  refine ax_aload_n (i := 0) (some o) dM_join_0 rfl rfl ?_
  refine ax_iload_n (i := 1) dM_join_1 rfl rfl ?_
  replace hf := bd1_s hf
  obtain ⟨x1, e_x1, hf⟩ := hf
  obtain ⟨k_e_x1, e_x1⟩ := cv_s e_x1
  refine ax_callV (As := [.int p1]) (rest := []) (c_M_isTalk e_x1) ml_1253 cm_M_isTalk rfl k_e_x1 (Nat.le_trans (Nat.le_of_ble_eq_true rfl) hR1) (Nat.le_trans (Nat.le_of_ble_eq_true rfl) hR2) rfl rfl (Nat.le_of_ble_eq_true rfl) dM_join_2 ?_
  replace hf := ite_c hf
  rcases hf with ⟨hc, hf⟩ | ⟨hc, hf⟩
  · refine ax_if_eqT 16 dM_join_5 (by decide) hc ?_
    refine ax_bipush (-101 : Int32) dM_join_16 k8_m101 ?_
    cases hf
    exact Hr _ _ dM_join_18
  · refine ax_if_eqF 16 dM_join_5 (by decide) hc ?_
    refine ax_aload_n (i := 0) (some o) dM_join_8 rfl rfl ?_
    refine ax_iload_n (i := 2) dM_join_9 rfl rfl ?_
    replace hf := bd1_s hf
    obtain ⟨x2, e_x2, hf⟩ := hf
    obtain ⟨k_e_x2, e_x2⟩ := cv_s e_x2
    refine ax_callV (As := [.int p2]) (rest := []) (c_M_isTalk e_x2) ml_1253 cm_M_isTalk rfl k_e_x2 (Nat.le_trans (Nat.le_of_ble_eq_true rfl) hR1) (Nat.le_trans (Nat.le_of_ble_eq_true rfl) hR2) rfl rfl (Nat.le_of_ble_eq_true rfl) dM_join_10 ?_
    replace hf := ite_c hf
    rcases hf with ⟨hc, hf⟩ | ⟨hc, hf⟩
    · refine ax_if_neF 19 dM_join_13 (by decide) hc ?_
      refine ax_bipush (-101 : Int32) dM_join_16 k8_m101 ?_
      cases hf
      exact Hr _ _ dM_join_18
    · refine ax_if_neT 19 dM_join_13 (by decide) hc ?_
      refine ax_iload_n (i := 3) dM_join_19 rfl rfl ?_
      refine ax_iconst (0 : Int32) dM_join_20 k32_0 ?_
      refine ax_iconst (2 : Int32) dM_join_21 k32_2 ?_
      replace hf := bd1_s hf
      obtain ⟨x3, e_x3, hf⟩ := hf
      refine ax_callS (As := [.int p3, .int (0 : Int32), .int (2 : Int32)]) (rest := []) (c_M_in e_x3) ml_1215 cm_M_in (Nat.le_trans (Nat.le_of_ble_eq_true rfl) hR1) (Nat.le_trans (Nat.le_of_ble_eq_true rfl) hR2) rfl rfl (Nat.le_of_ble_eq_true rfl) dM_join_22 ?_
      replace hf := ite_c hf
      rcases hf with ⟨hc, hf⟩ | ⟨hc, hf⟩
      · refine ax_if_neF 31 dM_join_25 (by decide) hc ?_
        refine ax_bipush (-102 : Int32) dM_join_28 k8_m102 ?_
        cases hf
        exact Hr _ _ dM_join_30
      · refine ax_if_neT 31 dM_join_25 (by decide) hc ?_
        refine ax_iload_n (i := 3) dM_join_31 rfl rfl ?_
        replace hf := ite_c hf
        rcases hf with ⟨hc, hf⟩ | ⟨hc, hf⟩
        · refine ax_if_leF 47 dM_join_32 (by decide) hc ?_
          refine ax_aload_n (i := 0) (some o) dM_join_35 rfl rfl ?_
          replace hf := bd1_s hf
          obtain ⟨x20, e_x20, hf⟩ := hf
          refine ax_getI fl_1019 rfl dM_join_36 e_x20 ?_
          refine ax_bipush (20 : Int32) dM_join_39 k8_20 ?_
          replace hf := ite_c hf
          rcases hf with ⟨hc, hf⟩ | ⟨hc, hf⟩
          · refine ax_icmp_neF 47 dM_join_41 (by decide) hc ?_
            refine ax_bipush (-103 : Int32) dM_join_44 k8_m103 ?_
            cases hf
            exact Hr _ _ dM_join_46
          · refine ax_icmp_neT 47 dM_join_41 (by decide) hc ?_
            refine ax_aload_n (i := 0) (some o) dM_join_47 rfl rfl ?_
            refine ax_dup dM_join_48 rfl ?_
            replace hf := bd1_s hf
            obtain ⟨x21, e_x21, hf⟩ := hf
            refine ax_getI fl_1019 rfl dM_join_49 e_x21 ?_
            refine ax_iload_n (i := 3) dM_join_52 rfl rfl ?_
            replace hf := bd1_s hf
            obtain ⟨x22, hT, hf⟩ := hf
            have K : AW l E mi_M_join R B Qf 61 [some (va_rf (some o)), some (.int p1), some (.int p2), some (.int p3), none] [.int x22, .int x21, va_rf (some o)] h0 := by
              clear hT
              refine ax_iadd dM_join_61 ?_
              replace hf := bd1_s hf
              obtain ⟨h23, e_h23, hf⟩ := hf
              refine ax_putI fw_1019 rfl rfl dM_join_62 e_h23 ?_
              refine ax_aload_n (i := 0) (some o) dM_join_65 rfl rfl ?_
              replace hf := bd1_s hf
              obtain ⟨h24, e_h24, hf⟩ := hf
              obtain ⟨k_e_h24, e_h24⟩ := cv_s e_h24
              refine ax_callV (As := []) (rest := []) (c_M_same e_h24) ml_1285 cm_M_same rfl k_e_h24 (Nat.le_trans (Nat.le_of_ble_eq_true rfl) hR1) (Nat.le_trans (Nat.le_of_ble_eq_true rfl) hR2) rfl rfl (Nat.le_of_ble_eq_true rfl) dM_join_66 ?_
              refine ax_iload_n (i := 3) dM_join_69 rfl rfl ?_
              replace hf := bd2_s hf
              obtain ⟨x29, h30, hT, hf⟩ := hf
              have K : AW l E mi_M_join R B Qf 90 [some (va_rf (some o)), none, none, none, none] [.int x29] h30 := by
                clear hT
                refine ax_istore (i := 4) [some (va_rf (some o)), none, none, none, some (.int x29)] dM_join_90 (Nat.le_of_ble_eq_true rfl) (Or.inr (c1n rfl)) rfl ?_
                refine ax_aload_n (i := 0) (some o) dM_join_92 rfl rfl ?_
                refine ax_aload_n (i := 0) (some o) dM_join_93 rfl rfl ?_
                replace hf := bd1_s hf
                obtain ⟨x31, e_x31, hf⟩ := hf
                refine ax_getI fl_1051 rfl dM_join_94 e_x31 ?_
                replace hf := bd1_s hf
                obtain ⟨h32, e_h32, hf⟩ := hf
                refine ax_putI fw_1048 rfl rfl dM_join_97 e_h32 ?_
                refine ax_aload_n (i := 0) (some o) dM_join_100 rfl rfl ?_
                refine ax_iconst (0 : Int32) dM_join_101 k32_0 ?_
                replace hf := bd1_s hf
                obtain ⟨h33, e_h33, hf⟩ := hf
                refine ax_putI fw_1049 rfl rfl dM_join_102 e_h33 ?_
                refine ax_iload (i := 4) dM_join_105 rfl ?_
                refine ax_iconst (1 : Int32) dM_join_107 k32_1 ?_
                refine ax_iconst (2 : Int32) dM_join_108 k32_2 ?_
                replace hf := bd1_s hf
                obtain ⟨x34, e_x34, hf⟩ := hf
                refine ax_callS (As := [.int x29, .int (1 : Int32), .int (2 : Int32)]) (rest := []) (c_M_in e_x34) ml_1215 cm_M_in (Nat.le_trans (Nat.le_of_ble_eq_true rfl) hR1) (Nat.le_trans (Nat.le_of_ble_eq_true rfl) hR2) rfl rfl (Nat.le_of_ble_eq_true rfl) dM_join_109 ?_
                replace hf := ite_c hf
                rcases hf with ⟨hc, hf⟩ | ⟨hc, hf⟩
                · refine ax_if_eqT 123 dM_join_112 (by decide) hc ?_
                  refine ax_iload (i := 4) dM_join_123 rfl ?_
                  cases hf
                  exact Hr _ _ dM_join_125
                · refine ax_if_eqF 123 dM_join_112 (by decide) hc ?_
                  refine ax_aload_n (i := 0) (some o) dM_join_115 rfl rfl ?_
                  refine ax_aload_n (i := 0) (some o) dM_join_116 rfl rfl ?_
                  replace hf := bd1_s hf
                  obtain ⟨x35, e_x35, hf⟩ := hf
                  refine ax_getI fl_1060 rfl dM_join_117 e_x35 ?_
                  replace hf := bd1_s hf
                  obtain ⟨h36, e_h36, hf⟩ := hf
                  obtain ⟨k_e_h36, e_h36⟩ := cv_s e_h36
                  refine ax_callV (As := [.int x35]) (rest := []) (c_M_traceTo e_h36) ml_1342 cm_M_traceTo rfl k_e_h36 (Nat.le_trans (Nat.le_of_ble_eq_true rfl) hR1) (Nat.le_trans (Nat.le_of_ble_eq_true rfl) hR2) rfl rfl (Nat.le_of_ble_eq_true rfl) dM_join_120 ?_
                  refine ax_iload (i := 4) dM_join_123 rfl ?_
                  cases hf
                  exact Hr _ _ dM_join_125
              replace hf := hT
              clear hT
              replace hf := ite_c hf
              rcases hf with ⟨hc, hf⟩ | ⟨hc, hf⟩
              · refine ax_if_neF 83 dM_join_70 (by decide) hc ?_
                refine ax_aload_n (i := 0) (some o) dM_join_73 rfl rfl ?_
                refine ax_iload_n (i := 1) dM_join_74 rfl rfl ?_
                refine ax_iload_n (i := 2) dM_join_75 rfl rfl ?_
                refine ax_iconst (1 : Int32) dM_join_76 k32_1 ?_
                replace hf := bd2_s hf
                obtain ⟨x27, h28, e_x27, hf⟩ := hf
                obtain ⟨k_e_x27, e_x27⟩ := cv_s e_x27
                refine ax_callV (As := [.int p1, .int p2, .int (1 : Int32)]) (rest := []) (c_M_walk e_x27) ml_1289 cm_M_walk rfl k_e_x27 (Nat.le_trans (Nat.le_of_ble_eq_true rfl) hR1) (Nat.le_trans (Nat.le_of_ble_eq_true rfl) hR2) rfl rfl (Nat.le_of_ble_eq_true rfl) dM_join_77 ?_
                refine ax_goto 90 dM_join_80 (by decide) ?_
                refine ax_mask [true, false, false, false, true] rfl [some (va_rf (some o)), none, none, none, none] rfl ?_
                cases hf
                exact K
              · refine ax_if_neT 83 dM_join_70 (by decide) hc ?_
                refine ax_aload_n (i := 0) (some o) dM_join_83 rfl rfl ?_
                refine ax_iload_n (i := 1) dM_join_84 rfl rfl ?_
                refine ax_iload_n (i := 2) dM_join_85 rfl rfl ?_
                refine ax_iload_n (i := 3) dM_join_86 rfl rfl ?_
                replace hf := bd2_s hf
                obtain ⟨x25, h26, e_x25, hf⟩ := hf
                obtain ⟨k_e_x25, e_x25⟩ := cv_s e_x25
                refine ax_callV (As := [.int p1, .int p2, .int p3]) (rest := []) (c_M_walkQueues e_x25) ml_1314 cm_M_walkQueues rfl k_e_x25 (Nat.le_trans (Nat.le_of_ble_eq_true rfl) hR1) (Nat.le_trans (Nat.le_of_ble_eq_true rfl) hR2) rfl rfl (Nat.le_of_ble_eq_true rfl) dM_join_87 ?_
                refine ax_mask [true, false, false, false, true] rfl [some (va_rf (some o)), none, none, none, none] rfl ?_
                cases hf
                exact K
            replace hf := hT
            clear hT
            replace hf := ite_c hf
            rcases hf with ⟨hc, hf⟩ | ⟨hc, hf⟩
            · refine ax_if_leF 60 dM_join_53 (by decide) hc ?_
              refine ax_iconst (1 : Int32) dM_join_56 k32_1 ?_
              refine ax_goto 61 dM_join_57 (by decide) ?_
              cases hf
              exact K
            · refine ax_if_leT 60 dM_join_53 (by decide) hc ?_
              refine ax_iconst (0 : Int32) dM_join_60 k32_0 ?_
              cases hf
              exact K
        · refine ax_if_leT 47 dM_join_32 (by decide) hc ?_
          refine ax_aload_n (i := 0) (some o) dM_join_47 rfl rfl ?_
          refine ax_dup dM_join_48 rfl ?_
          replace hf := bd1_s hf
          obtain ⟨x4, e_x4, hf⟩ := hf
          refine ax_getI fl_1019 rfl dM_join_49 e_x4 ?_
          refine ax_iload_n (i := 3) dM_join_52 rfl rfl ?_
          replace hf := bd1_s hf
          obtain ⟨x5, hT, hf⟩ := hf
          have K : AW l E mi_M_join R B Qf 61 [some (va_rf (some o)), some (.int p1), some (.int p2), some (.int p3), none] [.int x5, .int x4, va_rf (some o)] h0 := by
            clear hT
            refine ax_iadd dM_join_61 ?_
            replace hf := bd1_s hf
            obtain ⟨h6, e_h6, hf⟩ := hf
            refine ax_putI fw_1019 rfl rfl dM_join_62 e_h6 ?_
            refine ax_aload_n (i := 0) (some o) dM_join_65 rfl rfl ?_
            replace hf := bd1_s hf
            obtain ⟨h7, e_h7, hf⟩ := hf
            obtain ⟨k_e_h7, e_h7⟩ := cv_s e_h7
            refine ax_callV (As := []) (rest := []) (c_M_same e_h7) ml_1285 cm_M_same rfl k_e_h7 (Nat.le_trans (Nat.le_of_ble_eq_true rfl) hR1) (Nat.le_trans (Nat.le_of_ble_eq_true rfl) hR2) rfl rfl (Nat.le_of_ble_eq_true rfl) dM_join_66 ?_
            refine ax_iload_n (i := 3) dM_join_69 rfl rfl ?_
            replace hf := bd2_s hf
            obtain ⟨x12, h13, hT, hf⟩ := hf
            have K : AW l E mi_M_join R B Qf 90 [some (va_rf (some o)), none, none, none, none] [.int x12] h13 := by
              clear hT
              refine ax_istore (i := 4) [some (va_rf (some o)), none, none, none, some (.int x12)] dM_join_90 (Nat.le_of_ble_eq_true rfl) (Or.inr (c1n rfl)) rfl ?_
              refine ax_aload_n (i := 0) (some o) dM_join_92 rfl rfl ?_
              refine ax_aload_n (i := 0) (some o) dM_join_93 rfl rfl ?_
              replace hf := bd1_s hf
              obtain ⟨x14, e_x14, hf⟩ := hf
              refine ax_getI fl_1051 rfl dM_join_94 e_x14 ?_
              replace hf := bd1_s hf
              obtain ⟨h15, e_h15, hf⟩ := hf
              refine ax_putI fw_1048 rfl rfl dM_join_97 e_h15 ?_
              refine ax_aload_n (i := 0) (some o) dM_join_100 rfl rfl ?_
              refine ax_iconst (0 : Int32) dM_join_101 k32_0 ?_
              replace hf := bd1_s hf
              obtain ⟨h16, e_h16, hf⟩ := hf
              refine ax_putI fw_1049 rfl rfl dM_join_102 e_h16 ?_
              refine ax_iload (i := 4) dM_join_105 rfl ?_
              refine ax_iconst (1 : Int32) dM_join_107 k32_1 ?_
              refine ax_iconst (2 : Int32) dM_join_108 k32_2 ?_
              replace hf := bd1_s hf
              obtain ⟨x17, e_x17, hf⟩ := hf
              refine ax_callS (As := [.int x12, .int (1 : Int32), .int (2 : Int32)]) (rest := []) (c_M_in e_x17) ml_1215 cm_M_in (Nat.le_trans (Nat.le_of_ble_eq_true rfl) hR1) (Nat.le_trans (Nat.le_of_ble_eq_true rfl) hR2) rfl rfl (Nat.le_of_ble_eq_true rfl) dM_join_109 ?_
              replace hf := ite_c hf
              rcases hf with ⟨hc, hf⟩ | ⟨hc, hf⟩
              · refine ax_if_eqT 123 dM_join_112 (by decide) hc ?_
                refine ax_iload (i := 4) dM_join_123 rfl ?_
                cases hf
                exact Hr _ _ dM_join_125
              · refine ax_if_eqF 123 dM_join_112 (by decide) hc ?_
                refine ax_aload_n (i := 0) (some o) dM_join_115 rfl rfl ?_
                refine ax_aload_n (i := 0) (some o) dM_join_116 rfl rfl ?_
                replace hf := bd1_s hf
                obtain ⟨x18, e_x18, hf⟩ := hf
                refine ax_getI fl_1060 rfl dM_join_117 e_x18 ?_
                replace hf := bd1_s hf
                obtain ⟨h19, e_h19, hf⟩ := hf
                obtain ⟨k_e_h19, e_h19⟩ := cv_s e_h19
                refine ax_callV (As := [.int x18]) (rest := []) (c_M_traceTo e_h19) ml_1342 cm_M_traceTo rfl k_e_h19 (Nat.le_trans (Nat.le_of_ble_eq_true rfl) hR1) (Nat.le_trans (Nat.le_of_ble_eq_true rfl) hR2) rfl rfl (Nat.le_of_ble_eq_true rfl) dM_join_120 ?_
                refine ax_iload (i := 4) dM_join_123 rfl ?_
                cases hf
                exact Hr _ _ dM_join_125
            replace hf := hT
            clear hT
            replace hf := ite_c hf
            rcases hf with ⟨hc, hf⟩ | ⟨hc, hf⟩
            · refine ax_if_neF 83 dM_join_70 (by decide) hc ?_
              refine ax_aload_n (i := 0) (some o) dM_join_73 rfl rfl ?_
              refine ax_iload_n (i := 1) dM_join_74 rfl rfl ?_
              refine ax_iload_n (i := 2) dM_join_75 rfl rfl ?_
              refine ax_iconst (1 : Int32) dM_join_76 k32_1 ?_
              replace hf := bd2_s hf
              obtain ⟨x10, h11, e_x10, hf⟩ := hf
              obtain ⟨k_e_x10, e_x10⟩ := cv_s e_x10
              refine ax_callV (As := [.int p1, .int p2, .int (1 : Int32)]) (rest := []) (c_M_walk e_x10) ml_1289 cm_M_walk rfl k_e_x10 (Nat.le_trans (Nat.le_of_ble_eq_true rfl) hR1) (Nat.le_trans (Nat.le_of_ble_eq_true rfl) hR2) rfl rfl (Nat.le_of_ble_eq_true rfl) dM_join_77 ?_
              refine ax_goto 90 dM_join_80 (by decide) ?_
              refine ax_mask [true, false, false, false, true] rfl [some (va_rf (some o)), none, none, none, none] rfl ?_
              cases hf
              exact K
            · refine ax_if_neT 83 dM_join_70 (by decide) hc ?_
              refine ax_aload_n (i := 0) (some o) dM_join_83 rfl rfl ?_
              refine ax_iload_n (i := 1) dM_join_84 rfl rfl ?_
              refine ax_iload_n (i := 2) dM_join_85 rfl rfl ?_
              refine ax_iload_n (i := 3) dM_join_86 rfl rfl ?_
              replace hf := bd2_s hf
              obtain ⟨x8, h9, e_x8, hf⟩ := hf
              obtain ⟨k_e_x8, e_x8⟩ := cv_s e_x8
              refine ax_callV (As := [.int p1, .int p2, .int p3]) (rest := []) (c_M_walkQueues e_x8) ml_1314 cm_M_walkQueues rfl k_e_x8 (Nat.le_trans (Nat.le_of_ble_eq_true rfl) hR1) (Nat.le_trans (Nat.le_of_ble_eq_true rfl) hR2) rfl rfl (Nat.le_of_ble_eq_true rfl) dM_join_87 ?_
              refine ax_mask [true, false, false, false, true] rfl [some (va_rf (some o)), none, none, none, none] rfl ?_
              cases hf
              exact K
          replace hf := hT
          clear hT
          replace hf := ite_c hf
          rcases hf with ⟨hc, hf⟩ | ⟨hc, hf⟩
          · refine ax_if_leF 60 dM_join_53 (by decide) hc ?_
            refine ax_iconst (1 : Int32) dM_join_56 k32_1 ?_
            refine ax_goto 61 dM_join_57 (by decide) ?_
            cases hf
            exact K
          · refine ax_if_leT 60 dM_join_53 (by decide) hc ?_
            refine ax_iconst (0 : Int32) dM_join_60 k32_0 ?_
            cases hf
            exact K
theorem c_M_join {l : Launch} {E : EN} {h0 : AH} {o : Nat} {p1 : Int32} {p2 : Int32} {p3 : Int32} {r : Int32} {hF : AH} (hf : f_M_join h0 o p1 p2 p3 = some (r, hF)) : AM l E 5 mi_M_join [va_rf (some o), .int p1, .int p2, .int p3] h0 (some (.int r)) hF :=
  am_of2 [(va_rf (some o), false), (.int p1, false), (.int p2, false), (.int p3, false)] 1 ⟨cat_rf _, rfl, rfl, rfl, trivial⟩ rfl rfl (v_M_join (Nat.le_refl _) (Nat.le_refl _) (fun pc L hd => ax_iret rfl hd rfl) hf)
theorem v_M_walked {l : Launch} {E : EN} {R : Room} {B : (Nat × Nat) × (Nat × Nat)} {Qf : QF} {h0 : AH} {o : Nat} {r : Int32} (hR1 : 1 ≤ R.frames) (hR2 : 64 ≤ R.locals) (Hr : ∀ (pc : Nat) (L : List (Option Value)), decode mi_M_walked.2.1 pc = .ok (.ireturn, 1) → AW l E mi_M_walked R B Qf pc L [.int r] h0) (hf : f_M_walked h0 o = some r) : AW l E mi_M_walked R B Qf 0 [some (va_rf (some o))] [] h0 := by
  unfold f_M_walked at hf
  refine ax_aload_n (i := 0) (some o) dM_walked_0 rfl rfl ?_
  replace hf := bd1_s hf
  obtain ⟨x1, e_x1, hf⟩ := hf
  refine ax_getI fl_1048 rfl dM_walked_1 e_x1 ?_
  cases hf
  exact Hr _ _ dM_walked_4
theorem c_M_walked {l : Launch} {E : EN} {h0 : AH} {o : Nat} {r : Int32} (hf : f_M_walked h0 o = some r) : AM l E 1 mi_M_walked [va_rf (some o)] h0 (some (.int r)) h0 :=
  am_of2 [(va_rf (some o), false)] 0 ⟨cat_rf _, trivial⟩ rfl rfl (v_M_walked (Nat.le_refl _) (Nat.le_refl _) (fun pc L hd => ax_iret rfl hd rfl) hf)
theorem v_M_trace {l : Launch} {E : EN} {R : Room} {B : (Nat × Nat) × (Nat × Nat)} {Qf : QF} {h0 : AH} {o : Nat} {p1 : Int32} {r : Int32} (hR1 : 2 ≤ R.frames) (hR2 : 128 ≤ R.locals) (Hr : ∀ (pc : Nat) (L : List (Option Value)), decode mi_M_trace.2.1 pc = .ok (.ireturn, 1) → AW l E mi_M_trace R B Qf pc L [.int r] h0) (hf : f_M_trace h0 o p1 = some r) : AW l E mi_M_trace R B Qf 0 [some (va_rf (some o)), some (.int p1)] [] h0 := by
  unfold f_M_trace at hf
  refine ax_iload_n (i := 1) dM_trace_0 rfl rfl ?_
  refine ax_iconst (0 : Int32) dM_trace_1 k32_0 ?_
  refine ax_aload_n (i := 0) (some o) dM_trace_2 rfl rfl ?_
  replace hf := bd1_s hf
  obtain ⟨x1, e_x1, hf⟩ := hf
  refine ax_getI fl_1049 rfl dM_trace_3 e_x1 ?_
  refine ax_iconst (1 : Int32) dM_trace_6 k32_1 ?_
  refine ax_isub dM_trace_7 ?_
  replace hf := bd1_s hf
  obtain ⟨x2, e_x2, hf⟩ := hf
  refine ax_callS (As := [.int p1, .int (0 : Int32), .int (x1 - (1 : Int32))]) (rest := []) (c_M_in e_x2) ml_1215 cm_M_in (Nat.le_trans (Nat.le_of_ble_eq_true rfl) hR1) (Nat.le_trans (Nat.le_of_ble_eq_true rfl) hR2) rfl rfl (Nat.le_of_ble_eq_true rfl) dM_trace_8 ?_
  replace hf := ite_c hf
  rcases hf with ⟨hc, hf⟩ | ⟨hc, hf⟩
  · refine ax_if_eqT 23 dM_trace_11 (by decide) hc ?_
    refine ax_iconst (-1 : Int32) dM_trace_23 k32_m1 ?_
    cases hf
    exact Hr _ _ dM_trace_24
  · refine ax_if_eqF 23 dM_trace_11 (by decide) hc ?_
    refine ax_aload_n (i := 0) (some o) dM_trace_14 rfl rfl ?_
    replace hf := bd1_s hf
    obtain ⟨r3, e_r3, hf⟩ := hf
    refine ax_getR fl_1050 rfl dM_trace_15 e_r3 ?_
    refine ax_iload_n (i := 1) dM_trace_18 rfl rfl ?_
    replace hf := bd1_s hf
    obtain ⟨a4, e_d, hf⟩ := hf
    subst e_d
    replace hf := bd1_s hf
    obtain ⟨x5, e_x5, hf⟩ := hf
    refine ax_iald dM_trace_19 e_x5 ?_
    refine ax_goto 24 dM_trace_20 (by decide) ?_
    cases hf
    exact Hr _ _ dM_trace_24
theorem c_M_trace {l : Launch} {E : EN} {h0 : AH} {o : Nat} {p1 : Int32} {r : Int32} (hf : f_M_trace h0 o p1 = some r) : AM l E 2 mi_M_trace [va_rf (some o), .int p1] h0 (some (.int r)) h0 :=
  am_of2 [(va_rf (some o), false), (.int p1, false)] 0 ⟨cat_rf _, rfl, trivial⟩ rfl rfl (v_M_trace (Nat.le_refl _) (Nat.le_refl _) (fun pc L hd => ax_iret rfl hd rfl) hf)
theorem w_M_mayFit_L112 {l : Launch} {E : EN} {R : Room} {B : (Nat × Nat) × (Nat × Nat)} {Qf : QF} {h0 : AH} {r : Int32} (hR1 : 3 ≤ R.frames) (hR2 : 192 ≤ R.locals) (Hr : (r = 0 ∨ r = 1) → ∀ (pc : Nat) (L : List (Option Value)), decode mi_M_mayFit.2.1 pc = .ok (.ireturn, 1) → AW l E mi_M_mayFit R B Qf pc L [.int r] h0) {y0 : Nat} {y1 : Int32} {y2 : Int32} {y3 : Int32} {y4 : Int32} {y6 : Int32} {y8 : Int32} : ∀ (n : Nat) (z5 : Int32) (z9 : Int32), f_M_mayFit_L112 h0 y0 y1 y2 y3 y4 y6 y8 n z5 z9 = some r → AW l E mi_M_mayFit R B Qf 112 [some (va_rf (some y0)), some (.int y1), some (.int y2), some (.int y3), some (.int y4), some (.int z5), some (.int y6), none, some (.int y8), some (.int z9)] [] h0 := by
  intro n
  induction n with
  | zero => intro z5 z9 hf; cases hf
  | succ n ih =>
    intro z5 z9 hf
    rw [f_M_mayFit_L112] at hf
    refine ax_iload (i := 9) dM_mayFit_112 rfl ?_
    refine ax_bipush (8 : Int32) dM_mayFit_114 k8_8 ?_
    replace hf := ite_c hf
    rcases hf with ⟨hc, hf⟩ | ⟨hc, hf⟩
    · refine ax_icmp_geF 233 dM_mayFit_116 (by decide) hc ?_
      refine ax_iload (i := 5) dM_mayFit_119 rfl ?_
      replace hf := ite_c hf
      rcases hf with ⟨hc, hf⟩ | ⟨hc, hf⟩
      · refine ax_if_eqT 233 dM_mayFit_121 (by decide) hc ?_
        refine ax_iload (i := 5) dM_mayFit_233 rfl ?_
        replace hf := ite_s hf
        obtain ⟨e_z, hf⟩ := hf
        cases hf
        exact Hr e_z _ _ dM_mayFit_235
      · refine ax_if_eqF 233 dM_mayFit_121 (by decide) hc ?_
        refine ax_iload (i := 8) dM_mayFit_124 rfl ?_
        refine ax_iload (i := 9) dM_mayFit_126 rfl ?_
        refine ax_ishr dM_mayFit_128 ?_
        refine ax_iconst (1 : Int32) dM_mayFit_129 k32_1 ?_
        refine ax_iand dM_mayFit_130 ?_
        refine ax_iconst (1 : Int32) dM_mayFit_131 k32_1 ?_
        replace hf := bd1_s hf
        obtain ⟨x24, hT, hf⟩ := hf
        have K : AW l E mi_M_mayFit R B Qf 173 [some (va_rf (some y0)), some (.int y1), some (.int y2), some (.int y3), some (.int y4), some (.int x24), some (.int y6), none, some (.int y8), some (.int z9)] [] h0 := by
          clear hT
          refine ax_iload (i := 5) dM_mayFit_173 rfl ?_
          replace hf := ite_c hf
          rcases hf with ⟨hc, hf⟩ | ⟨hc, hf⟩
          · refine ax_if_eqT 227 dM_mayFit_175 (by decide) hc ?_
            refine ax_iinc (i := 9) (z9 + (1 : Int32)) [some (va_rf (some y0)), some (.int y1), some (.int y2), some (.int y3), some (.int y4), some (.int x24), some (.int y6), none, some (.int y8), some (.int (z9 + (1 : Int32)))] dM_mayFit_227 rfl (iic k32_1) (Or.inr (c1i rfl)) rfl ?_
            refine ax_goto 112 dM_mayFit_230 (by decide) ?_
            exact ih x24 (z9 + (1 : Int32)) hf
          · refine ax_if_eqF 227 dM_mayFit_175 (by decide) hc ?_
            refine ax_iload (i := 6) dM_mayFit_178 rfl ?_
            refine ax_iload (i := 9) dM_mayFit_180 rfl ?_
            refine ax_ishr dM_mayFit_182 ?_
            refine ax_iconst (1 : Int32) dM_mayFit_183 k32_1 ?_
            refine ax_iand dM_mayFit_184 ?_
            refine ax_iconst (1 : Int32) dM_mayFit_185 k32_1 ?_
            replace hf := ite_c hf
            rcases hf with ⟨hc, hf⟩ | ⟨hc, hf⟩
            · refine ax_icmp_neF 227 dM_mayFit_186 (by decide) hc ?_
              refine ax_aload_n (i := 0) (some y0) dM_mayFit_189 rfl rfl ?_
              replace hf := bd1_s hf
              obtain ⟨r25, e_r25, hf⟩ := hf
              refine ax_getR fl_1062 rfl dM_mayFit_190 e_r25 ?_
              refine ax_bipush (25 : Int32) dM_mayFit_193 k8_25 ?_
              refine ax_aload_n (i := 0) (some y0) dM_mayFit_195 rfl rfl ?_
              replace hf := bd1_s hf
              obtain ⟨r26, e_r26, hf⟩ := hf
              refine ax_getR fl_1017 rfl dM_mayFit_196 e_r26 ?_
              refine ax_iload_n (i := 1) dM_mayFit_199 rfl rfl ?_
              refine ax_iload_n (i := 3) dM_mayFit_200 rfl rfl ?_
              refine ax_iconst (1 : Int32) dM_mayFit_201 k32_1 ?_
              refine ax_iload (i := 9) dM_mayFit_202 rfl ?_
              replace hf := bd1_s hf
              obtain ⟨x27, e_x27, hf⟩ := hf
              refine ax_callS (As := [.int y1, .int y3, .int (1 : Int32), .int z9]) (rest := [va_rf r26, .int (25 : Int32), va_rf r25]) (c_M_place e_x27) ml_1246 cm_M_place (Nat.le_trans (Nat.le_of_ble_eq_true rfl) hR1) (Nat.le_trans (Nat.le_of_ble_eq_true rfl) hR2) rfl rfl (by simp only [List.map_cons, List.map_nil, List.sum_cons, List.sum_nil, cat_rf]; exact Nat.le_of_ble_eq_true rfl) dM_mayFit_204 ?_
              replace hf := bd1_s hf
              obtain ⟨a28, e_d, hf⟩ := hf
              subst e_d
              replace hf := bd1_s hf
              obtain ⟨x29, e_x29, hf⟩ := hf
              refine ax_iald dM_mayFit_207 e_x29 ?_
              refine ax_imul dM_mayFit_208 ?_
              refine ax_aload_n (i := 0) (some y0) dM_mayFit_209 rfl rfl ?_
              replace hf := bd1_s hf
              obtain ⟨r30, e_r30, hf⟩ := hf
              refine ax_getR fl_1017 rfl dM_mayFit_210 e_r30 ?_
              refine ax_iload_n (i := 2) dM_mayFit_213 rfl rfl ?_
              refine ax_iload (i := 4) dM_mayFit_214 rfl ?_
              refine ax_iconst (1 : Int32) dM_mayFit_216 k32_1 ?_
              refine ax_iload (i := 9) dM_mayFit_217 rfl ?_
              replace hf := bd1_s hf
              obtain ⟨x31, e_x31, hf⟩ := hf
              refine ax_callS (As := [.int y2, .int y4, .int (1 : Int32), .int z9]) (rest := [va_rf r30, .int ((25 : Int32) * x29), va_rf r25]) (c_M_place e_x31) ml_1246 cm_M_place (Nat.le_trans (Nat.le_of_ble_eq_true rfl) hR1) (Nat.le_trans (Nat.le_of_ble_eq_true rfl) hR2) rfl rfl (by simp only [List.map_cons, List.map_nil, List.sum_cons, List.sum_nil, cat_rf]; exact Nat.le_of_ble_eq_true rfl) dM_mayFit_219 ?_
              replace hf := bd1_s hf
              obtain ⟨a32, e_d, hf⟩ := hf
              subst e_d
              replace hf := bd1_s hf
              obtain ⟨x33, e_x33, hf⟩ := hf
              refine ax_iald dM_mayFit_222 e_x33 ?_
              refine ax_iadd dM_mayFit_223 ?_
              replace hf := bd1_s hf
              obtain ⟨a34, e_d, hf⟩ := hf
              subst e_d
              replace hf := bd1_s hf
              obtain ⟨x35, e_x35, hf⟩ := hf
              refine ax_zald dM_mayFit_224 e_x35 ?_
              refine ax_istore (i := 5) [some (va_rf (some y0)), some (.int y1), some (.int y2), some (.int y3), some (.int y4), some (.int x35), some (.int y6), none, some (.int y8), some (.int z9)] dM_mayFit_225 (Nat.le_of_ble_eq_true rfl) (Or.inr (c1i rfl)) rfl ?_
              refine ax_iinc (i := 9) (z9 + (1 : Int32)) [some (va_rf (some y0)), some (.int y1), some (.int y2), some (.int y3), some (.int y4), some (.int x35), some (.int y6), none, some (.int y8), some (.int (z9 + (1 : Int32)))] dM_mayFit_227 rfl (iic k32_1) (Or.inr (c1i rfl)) rfl ?_
              refine ax_goto 112 dM_mayFit_230 (by decide) ?_
              exact ih x35 (z9 + (1 : Int32)) hf
            · refine ax_icmp_neT 227 dM_mayFit_186 (by decide) hc ?_
              refine ax_iinc (i := 9) (z9 + (1 : Int32)) [some (va_rf (some y0)), some (.int y1), some (.int y2), some (.int y3), some (.int y4), some (.int x24), some (.int y6), none, some (.int y8), some (.int (z9 + (1 : Int32)))] dM_mayFit_227 rfl (iic k32_1) (Or.inr (c1i rfl)) rfl ?_
              refine ax_goto 112 dM_mayFit_230 (by decide) ?_
              exact ih x24 (z9 + (1 : Int32)) hf
        replace hf := hT
        clear hT
        replace hf := ite_c hf
        rcases hf with ⟨hc, hf⟩ | ⟨hc, hf⟩
        · refine ax_icmp_neF 173 dM_mayFit_132 (by decide) hc ?_
          refine ax_aload_n (i := 0) (some y0) dM_mayFit_135 rfl rfl ?_
          replace hf := bd1_s hf
          obtain ⟨r13, e_r13, hf⟩ := hf
          refine ax_getR fl_1062 rfl dM_mayFit_136 e_r13 ?_
          refine ax_bipush (25 : Int32) dM_mayFit_139 k8_25 ?_
          refine ax_aload_n (i := 0) (some y0) dM_mayFit_141 rfl rfl ?_
          replace hf := bd1_s hf
          obtain ⟨r14, e_r14, hf⟩ := hf
          refine ax_getR fl_1017 rfl dM_mayFit_142 e_r14 ?_
          refine ax_iload_n (i := 1) dM_mayFit_145 rfl rfl ?_
          refine ax_iload_n (i := 3) dM_mayFit_146 rfl rfl ?_
          refine ax_iconst (0 : Int32) dM_mayFit_147 k32_0 ?_
          refine ax_iload (i := 9) dM_mayFit_148 rfl ?_
          replace hf := bd1_s hf
          obtain ⟨x15, e_x15, hf⟩ := hf
          refine ax_callS (As := [.int y1, .int y3, .int (0 : Int32), .int z9]) (rest := [va_rf r14, .int (25 : Int32), va_rf r13]) (c_M_place e_x15) ml_1246 cm_M_place (Nat.le_trans (Nat.le_of_ble_eq_true rfl) hR1) (Nat.le_trans (Nat.le_of_ble_eq_true rfl) hR2) rfl rfl (by simp only [List.map_cons, List.map_nil, List.sum_cons, List.sum_nil, cat_rf]; exact Nat.le_of_ble_eq_true rfl) dM_mayFit_150 ?_
          replace hf := bd1_s hf
          obtain ⟨a16, e_d, hf⟩ := hf
          subst e_d
          replace hf := bd1_s hf
          obtain ⟨x17, e_x17, hf⟩ := hf
          refine ax_iald dM_mayFit_153 e_x17 ?_
          refine ax_imul dM_mayFit_154 ?_
          refine ax_aload_n (i := 0) (some y0) dM_mayFit_155 rfl rfl ?_
          replace hf := bd1_s hf
          obtain ⟨r18, e_r18, hf⟩ := hf
          refine ax_getR fl_1017 rfl dM_mayFit_156 e_r18 ?_
          refine ax_iload_n (i := 2) dM_mayFit_159 rfl rfl ?_
          refine ax_iload (i := 4) dM_mayFit_160 rfl ?_
          refine ax_iconst (0 : Int32) dM_mayFit_162 k32_0 ?_
          refine ax_iload (i := 9) dM_mayFit_163 rfl ?_
          replace hf := bd1_s hf
          obtain ⟨x19, e_x19, hf⟩ := hf
          refine ax_callS (As := [.int y2, .int y4, .int (0 : Int32), .int z9]) (rest := [va_rf r18, .int ((25 : Int32) * x17), va_rf r13]) (c_M_place e_x19) ml_1246 cm_M_place (Nat.le_trans (Nat.le_of_ble_eq_true rfl) hR1) (Nat.le_trans (Nat.le_of_ble_eq_true rfl) hR2) rfl rfl (by simp only [List.map_cons, List.map_nil, List.sum_cons, List.sum_nil, cat_rf]; exact Nat.le_of_ble_eq_true rfl) dM_mayFit_165 ?_
          replace hf := bd1_s hf
          obtain ⟨a20, e_d, hf⟩ := hf
          subst e_d
          replace hf := bd1_s hf
          obtain ⟨x21, e_x21, hf⟩ := hf
          refine ax_iald dM_mayFit_168 e_x21 ?_
          refine ax_iadd dM_mayFit_169 ?_
          replace hf := bd1_s hf
          obtain ⟨a22, e_d, hf⟩ := hf
          subst e_d
          replace hf := bd1_s hf
          obtain ⟨x23, e_x23, hf⟩ := hf
          refine ax_zald dM_mayFit_170 e_x23 ?_
          refine ax_istore (i := 5) [some (va_rf (some y0)), some (.int y1), some (.int y2), some (.int y3), some (.int y4), some (.int x23), some (.int y6), none, some (.int y8), some (.int z9)] dM_mayFit_171 (Nat.le_of_ble_eq_true rfl) (Or.inr (c1i rfl)) rfl ?_
          cases hf
          exact K
        · refine ax_icmp_neT 173 dM_mayFit_132 (by decide) hc ?_
          cases hf
          exact K
    · refine ax_icmp_geT 233 dM_mayFit_116 (by decide) hc ?_
      refine ax_iload (i := 5) dM_mayFit_233 rfl ?_
      replace hf := ite_s hf
      obtain ⟨e_z, hf⟩ := hf
      cases hf
      exact Hr e_z _ _ dM_mayFit_235
theorem v_M_mayFit {l : Launch} {E : EN} {R : Room} {B : (Nat × Nat) × (Nat × Nat)} {Qf : QF} {h0 : AH} {o : Nat} {p1 : Int32} {p2 : Int32} {p3 : Int32} {p4 : Int32} {r : Int32} (hR1 : 3 ≤ R.frames) (hR2 : 192 ≤ R.locals) (Hr : (r = 0 ∨ r = 1) → ∀ (pc : Nat) (L : List (Option Value)), decode mi_M_mayFit.2.1 pc = .ok (.ireturn, 1) → AW l E mi_M_mayFit R B Qf pc L [.int r] h0) (hf : f_M_mayFit h0 o p1 p2 p3 p4 = some r) : AW l E mi_M_mayFit R B Qf 0 [some (va_rf (some o)), some (.int p1), some (.int p2), some (.int p3), some (.int p4), none, none, none, none, none] [] h0 := by
  unfold f_M_mayFit at hf
  refine ax_aload_n (i := 0) (some o) dM_mayFit_0 rfl rfl ?_
  replace hf := bd1_s hf
  obtain ⟨r1, e_r1, hf⟩ := hf
  refine ax_getR fl_1018 rfl dM_mayFit_1 e_r1 ?_
  refine ax_bipush (25 : Int32) dM_mayFit_4 k8_25 ?_
  refine ax_iload_n (i := 1) dM_mayFit_6 rfl rfl ?_
  refine ax_imul dM_mayFit_7 ?_
  refine ax_iload_n (i := 3) dM_mayFit_8 rfl rfl ?_
  refine ax_iadd dM_mayFit_9 ?_
  replace hf := bd1_s hf
  obtain ⟨a2, e_d, hf⟩ := hf
  subst e_d
  replace hf := bd1_s hf
  obtain ⟨x3, e_x3, hf⟩ := hf
  refine ax_zald dM_mayFit_10 e_x3 ?_
  refine ax_aload_n (i := 0) (some o) dM_mayFit_11 rfl rfl ?_
  replace hf := bd1_s hf
  obtain ⟨r4, e_r4, hf⟩ := hf
  refine ax_getR fl_1018 rfl dM_mayFit_12 e_r4 ?_
  refine ax_bipush (25 : Int32) dM_mayFit_15 k8_25 ?_
  refine ax_iload_n (i := 2) dM_mayFit_17 rfl rfl ?_
  refine ax_imul dM_mayFit_18 ?_
  refine ax_iload (i := 4) dM_mayFit_19 rfl ?_
  refine ax_iadd dM_mayFit_21 ?_
  replace hf := bd1_s hf
  obtain ⟨a5, e_d, hf⟩ := hf
  subst e_d
  replace hf := bd1_s hf
  obtain ⟨x6, e_x6, hf⟩ := hf
  refine ax_zald dM_mayFit_22 e_x6 ?_
  replace hf := bd1_s hf
  obtain ⟨x7, hT, hf⟩ := hf
  have K : AW l E mi_M_mayFit R B Qf 31 [some (va_rf (some o)), some (.int p1), some (.int p2), some (.int p3), some (.int p4), none, none, none, none, none] [.int x7] h0 := by
    clear hT
    refine ax_istore (i := 5) [some (va_rf (some o)), some (.int p1), some (.int p2), some (.int p3), some (.int p4), some (.int x7), none, none, none, none] dM_mayFit_31 (Nat.le_of_ble_eq_true rfl) (Or.inr (c1i rfl)) rfl ?_
    refine ax_aload_n (i := 0) (some o) dM_mayFit_33 rfl rfl ?_
    refine ax_iload_n (i := 1) dM_mayFit_34 rfl rfl ?_
    refine ax_iload_n (i := 3) dM_mayFit_35 rfl rfl ?_
    refine ax_iconst (1 : Int32) dM_mayFit_36 k32_1 ?_
    replace hf := bd1_s hf
    obtain ⟨x8, e_x8, hf⟩ := hf
    obtain ⟨k_e_x8, e_x8⟩ := cv_s e_x8
    refine ax_callV (As := [.int p1, .int p3, .int (1 : Int32)]) (rest := []) (c_M_nowOf e_x8) ml_1277 cm_M_nowOf rfl k_e_x8 (Nat.le_trans (Nat.le_of_ble_eq_true rfl) hR1) (Nat.le_trans (Nat.le_of_ble_eq_true rfl) hR2) rfl rfl (Nat.le_of_ble_eq_true rfl) dM_mayFit_37 ?_
    refine ax_istore (i := 6) [some (va_rf (some o)), some (.int p1), some (.int p2), some (.int p3), some (.int p4), some (.int x7), some (.int x8), none, none, none] dM_mayFit_40 (Nat.le_of_ble_eq_true rfl) (Or.inr (c1i rfl)) rfl ?_
    refine ax_aload_n (i := 0) (some o) dM_mayFit_42 rfl rfl ?_
    refine ax_iload_n (i := 2) dM_mayFit_43 rfl rfl ?_
    refine ax_iload (i := 4) dM_mayFit_44 rfl ?_
    refine ax_iconst (1 : Int32) dM_mayFit_46 k32_1 ?_
    replace hf := bd1_s hf
    obtain ⟨x9, e_x9, hf⟩ := hf
    obtain ⟨k_e_x9, e_x9⟩ := cv_s e_x9
    refine ax_callV (As := [.int p2, .int p4, .int (1 : Int32)]) (rest := []) (c_M_nowOf e_x9) ml_1277 cm_M_nowOf rfl k_e_x9 (Nat.le_trans (Nat.le_of_ble_eq_true rfl) hR1) (Nat.le_trans (Nat.le_of_ble_eq_true rfl) hR2) rfl rfl (Nat.le_of_ble_eq_true rfl) dM_mayFit_47 ?_
    refine ax_istore (i := 7) [some (va_rf (some o)), some (.int p1), some (.int p2), some (.int p3), some (.int p4), some (.int x7), some (.int x8), some (.int x9), none, none] dM_mayFit_50 (Nat.le_of_ble_eq_true rfl) (Or.inr (c1i rfl)) rfl ?_
    refine ax_aload_n (i := 0) (some o) dM_mayFit_52 rfl rfl ?_
    refine ax_iload_n (i := 2) dM_mayFit_53 rfl rfl ?_
    refine ax_iload (i := 4) dM_mayFit_54 rfl ?_
    refine ax_iconst (0 : Int32) dM_mayFit_56 k32_0 ?_
    replace hf := bd1_s hf
    obtain ⟨x10, e_x10, hf⟩ := hf
    obtain ⟨k_e_x10, e_x10⟩ := cv_s e_x10
    refine ax_callV (As := [.int p2, .int p4, .int (0 : Int32)]) (rest := []) (c_M_nowOf e_x10) ml_1277 cm_M_nowOf rfl k_e_x10 (Nat.le_trans (Nat.le_of_ble_eq_true rfl) hR1) (Nat.le_trans (Nat.le_of_ble_eq_true rfl) hR2) rfl rfl (Nat.le_of_ble_eq_true rfl) dM_mayFit_57 ?_
    refine ax_istore (i := 8) [some (va_rf (some o)), some (.int p1), some (.int p2), some (.int p3), some (.int p4), some (.int x7), some (.int x8), some (.int x9), some (.int x10), none] dM_mayFit_60 (Nat.le_of_ble_eq_true rfl) (Or.inr (c1i rfl)) rfl ?_
    refine ax_iload (i := 5) dM_mayFit_62 rfl ?_
    replace hf := bd1_s hf
    obtain ⟨x12, hT, hf⟩ := hf
    have K : AW l E mi_M_mayFit R B Qf 107 [some (va_rf (some o)), some (.int p1), some (.int p2), some (.int p3), some (.int p4), none, some (.int x8), none, some (.int x10), none] [.int x12] h0 := by
      clear hT
      refine ax_istore (i := 5) [some (va_rf (some o)), some (.int p1), some (.int p2), some (.int p3), some (.int p4), some (.int x12), some (.int x8), none, some (.int x10), none] dM_mayFit_107 (Nat.le_of_ble_eq_true rfl) (Or.inr (c1i rfl)) rfl ?_
      refine ax_iconst (0 : Int32) dM_mayFit_109 k32_0 ?_
      refine ax_istore (i := 9) [some (va_rf (some o)), some (.int p1), some (.int p2), some (.int p3), some (.int p4), some (.int x12), some (.int x8), none, some (.int x10), some (.int (0 : Int32))] dM_mayFit_110 (Nat.le_of_ble_eq_true rfl) (Or.inr (c1i rfl)) rfl ?_
      refine w_M_mayFit_L112 hR1 hR2 Hr FU x12 (0 : Int32) hf
    replace hf := hT
    clear hT
    replace hf := ite_c hf
    rcases hf with ⟨hc, hf⟩ | ⟨hc, hf⟩
    · refine ax_if_eqT 106 dM_mayFit_64 (by decide) hc ?_
      refine ax_iconst (0 : Int32) dM_mayFit_106 k32_0 ?_
      refine ax_mask [true, true, true, true, true, false, true, false, true, true] rfl [some (va_rf (some o)), some (.int p1), some (.int p2), some (.int p3), some (.int p4), none, some (.int x8), none, some (.int x10), none] rfl ?_
      cases hf
      exact K
    · refine ax_if_eqF 106 dM_mayFit_64 (by decide) hc ?_
      refine ax_iload (i := 6) dM_mayFit_67 rfl ?_
      refine ax_iload (i := 7) dM_mayFit_69 rfl ?_
      refine ax_iconst (-1 : Int32) dM_mayFit_71 k32_m1 ?_
      refine ax_ixor dM_mayFit_72 ?_
      refine ax_iand dM_mayFit_73 ?_
      replace hf := ite_c hf
      rcases hf with ⟨hc, hf⟩ | ⟨hc, hf⟩
      · refine ax_if_neF 106 dM_mayFit_74 (by decide) hc ?_
        refine ax_iload (i := 8) dM_mayFit_77 rfl ?_
        refine ax_aload_n (i := 0) (some o) dM_mayFit_79 rfl rfl ?_
        refine ax_iload_n (i := 1) dM_mayFit_80 rfl rfl ?_
        refine ax_iload_n (i := 3) dM_mayFit_81 rfl rfl ?_
        refine ax_iconst (0 : Int32) dM_mayFit_82 k32_0 ?_
        replace hf := bd1_s hf
        obtain ⟨x11, e_x11, hf⟩ := hf
        obtain ⟨k_e_x11, e_x11⟩ := cv_s e_x11
        refine ax_callV (As := [.int p1, .int p3, .int (0 : Int32)]) (rest := [.int x10]) (c_M_nowOf e_x11) ml_1277 cm_M_nowOf rfl k_e_x11 (Nat.le_trans (Nat.le_of_ble_eq_true rfl) hR1) (Nat.le_trans (Nat.le_of_ble_eq_true rfl) hR2) rfl rfl (Nat.le_of_ble_eq_true rfl) dM_mayFit_83 ?_
        refine ax_iconst (-1 : Int32) dM_mayFit_86 k32_m1 ?_
        refine ax_ixor dM_mayFit_87 ?_
        refine ax_iand dM_mayFit_88 ?_
        replace hf := ite_c hf
        rcases hf with ⟨hc, hf⟩ | ⟨hc, hf⟩
        · refine ax_if_neF 106 dM_mayFit_89 (by decide) hc ?_
          refine ax_iload (i := 6) dM_mayFit_92 rfl ?_
          replace hf := ite_c hf
          rcases hf with ⟨hc, hf⟩ | ⟨hc, hf⟩
          · refine ax_if_neF 102 dM_mayFit_94 (by decide) hc ?_
            refine ax_iload (i := 7) dM_mayFit_97 rfl ?_
            replace hf := ite_c hf
            rcases hf with ⟨hc, hf⟩ | ⟨hc, hf⟩
            · refine ax_if_neF 106 dM_mayFit_99 (by decide) hc ?_
              refine ax_iconst (1 : Int32) dM_mayFit_102 k32_1 ?_
              refine ax_goto 107 dM_mayFit_103 (by decide) ?_
              refine ax_mask [true, true, true, true, true, false, true, false, true, true] rfl [some (va_rf (some o)), some (.int p1), some (.int p2), some (.int p3), some (.int p4), none, some (.int x8), none, some (.int x10), none] rfl ?_
              cases hf
              exact K
            · refine ax_if_neT 106 dM_mayFit_99 (by decide) hc ?_
              refine ax_iconst (0 : Int32) dM_mayFit_106 k32_0 ?_
              refine ax_mask [true, true, true, true, true, false, true, false, true, true] rfl [some (va_rf (some o)), some (.int p1), some (.int p2), some (.int p3), some (.int p4), none, some (.int x8), none, some (.int x10), none] rfl ?_
              cases hf
              exact K
          · refine ax_if_neT 102 dM_mayFit_94 (by decide) hc ?_
            refine ax_iconst (1 : Int32) dM_mayFit_102 k32_1 ?_
            refine ax_goto 107 dM_mayFit_103 (by decide) ?_
            refine ax_mask [true, true, true, true, true, false, true, false, true, true] rfl [some (va_rf (some o)), some (.int p1), some (.int p2), some (.int p3), some (.int p4), none, some (.int x8), none, some (.int x10), none] rfl ?_
            cases hf
            exact K
        · refine ax_if_neT 106 dM_mayFit_89 (by decide) hc ?_
          refine ax_iconst (0 : Int32) dM_mayFit_106 k32_0 ?_
          refine ax_mask [true, true, true, true, true, false, true, false, true, true] rfl [some (va_rf (some o)), some (.int p1), some (.int p2), some (.int p3), some (.int p4), none, some (.int x8), none, some (.int x10), none] rfl ?_
          cases hf
          exact K
      · refine ax_if_neT 106 dM_mayFit_74 (by decide) hc ?_
        refine ax_iconst (0 : Int32) dM_mayFit_106 k32_0 ?_
        refine ax_mask [true, true, true, true, true, false, true, false, true, true] rfl [some (va_rf (some o)), some (.int p1), some (.int p2), some (.int p3), some (.int p4), none, some (.int x8), none, some (.int x10), none] rfl ?_
        cases hf
        exact K
  replace hf := hT
  clear hT
  replace hf := ite_c hf
  rcases hf with ⟨hc, hf⟩ | ⟨hc, hf⟩
  · refine ax_icmp_neF 30 dM_mayFit_23 (by decide) hc ?_
    refine ax_iconst (1 : Int32) dM_mayFit_26 k32_1 ?_
    refine ax_goto 31 dM_mayFit_27 (by decide) ?_
    cases hf
    exact K
  · refine ax_icmp_neT 30 dM_mayFit_23 (by decide) hc ?_
    refine ax_iconst (0 : Int32) dM_mayFit_30 k32_0 ?_
    cases hf
    exact K
theorem c_M_mayFit {l : Launch} {E : EN} {h0 : AH} {o : Nat} {p1 : Int32} {p2 : Int32} {p3 : Int32} {p4 : Int32} {r : Int32} (hf : f_M_mayFit h0 o p1 p2 p3 p4 = some r) : AM l E 3 mi_M_mayFit [va_rf (some o), .int p1, .int p2, .int p3, .int p4] h0 (some (.int r)) h0 :=
  am_of2 [(va_rf (some o), false), (.int p1, false), (.int p2, false), (.int p3, false), (.int p4, false)] 5 ⟨cat_rf _, rfl, rfl, rfl, rfl, trivial⟩ rfl rfl (v_M_mayFit (Nat.le_refl _) (Nat.le_refl _) (fun hz pc L hd => ax_zret rfl hz hd rfl) hf)
theorem w_M_fitAll_L2 {l : Launch} {E : EN} {R : Room} {B : (Nat × Nat) × (Nat × Nat)} {Qf : QF} {ρ : Type} {res : ρ} (hR1 : 4 ≤ R.frames) (hR2 : 256 ≤ R.locals) {y0 : Nat} {y1 : Int32} {y2 : Int32} {k : AH → Option (ρ)} (hk : ∀ (h : AH), k h = some res → AW l E mi_M_fitAll R B Qf 52 [some (va_rf (some y0)), some (.int y1), some (.int y2), none, none] [] h) : ∀ (n : Nat) (z3 : Int32) (h : AH), f_M_fitAll_L2 y0 y1 y2 k n z3 h = some res → AW l E mi_M_fitAll R B Qf 2 [some (va_rf (some y0)), some (.int y1), some (.int y2), some (.int z3), none] [] h := by
  intro n
  induction n with
  | zero => intro z3 h hf; cases hf
  | succ n ih =>
    intro z3 h hf
    rw [f_M_fitAll_L2] at hf
    refine ax_iload_n (i := 3) dM_fitAll_2 rfl rfl ?_
    refine ax_sipush (625 : Int32) dM_fitAll_3 k16_625 ?_
    replace hf := ite_c hf
    rcases hf with ⟨hc, hf⟩ | ⟨hc, hf⟩
    · refine ax_icmp_geF 52 dM_fitAll_6 (by decide) hc ?_
      refine ax_aload_n (i := 0) (some y0) dM_fitAll_9 rfl rfl ?_
      replace hf := bd1_s hf
      obtain ⟨r1, e_r1, hf⟩ := hf
      refine ax_getR fl_1062 rfl dM_fitAll_10 e_r1 ?_
      refine ax_iload_n (i := 3) dM_fitAll_13 rfl rfl ?_
      refine ax_iload_n (i := 3) dM_fitAll_14 rfl rfl ?_
      refine ax_bipush (25 : Int32) dM_fitAll_15 k8_25 ?_
      refine ax_idiv dM_fitAll_17 (by decide) ?_
      refine ax_aload_n (i := 0) (some y0) dM_fitAll_18 rfl rfl ?_
      replace hf := bd1_s hf
      obtain ⟨r2, e_r2, hf⟩ := hf
      refine ax_getR fl_1016 rfl dM_fitAll_19 e_r2 ?_
      refine ax_iload_n (i := 1) dM_fitAll_22 rfl rfl ?_
      replace hf := bd1_s hf
      obtain ⟨a3, e_d, hf⟩ := hf
      subst e_d
      replace hf := bd1_s hf
      obtain ⟨x4, e_x4, hf⟩ := hf
      refine ax_iald dM_fitAll_23 e_x4 ?_
      replace hf := bd1_s hf
      obtain ⟨x8, hT, hf⟩ := hf
      have K : AW l E mi_M_fitAll R B Qf 45 [some (va_rf (some y0)), some (.int y1), some (.int y2), some (.int z3), none] [.int x8, .int z3, va_rf r1] h := by
        clear hT
        replace hf := bd1_s hf
        obtain ⟨a9, e_d, hf⟩ := hf
        subst e_d
        replace hf := bd1_s hf
        obtain ⟨h10, e_h10, hf⟩ := hf
        refine ax_zast dM_fitAll_45 e_h10 ?_
        refine ax_iinc (i := 3) (z3 + (1 : Int32)) [some (va_rf (some y0)), some (.int y1), some (.int y2), some (.int (z3 + (1 : Int32))), none] dM_fitAll_46 rfl (iic k32_1) (Or.inr (c1i rfl)) rfl ?_
        refine ax_goto 2 dM_fitAll_49 (by decide) ?_
        exact ih (z3 + (1 : Int32)) h10 hf
      replace hf := hT
      clear hT
      replace hf := ite_c hf
      rcases hf with ⟨hc, hf⟩ | ⟨hc, hf⟩
      · refine ax_icmp_gtT 44 dM_fitAll_24 (by decide) hc ?_
        refine ax_iconst (0 : Int32) dM_fitAll_44 k32_0 ?_
        cases hf
        exact K
      · refine ax_icmp_gtF 44 dM_fitAll_24 (by decide) hc ?_
        refine ax_iload_n (i := 3) dM_fitAll_27 rfl rfl ?_
        refine ax_bipush (25 : Int32) dM_fitAll_28 k8_25 ?_
        refine ax_irem dM_fitAll_30 (by decide) ?_
        refine ax_aload_n (i := 0) (some y0) dM_fitAll_31 rfl rfl ?_
        replace hf := bd1_s hf
        obtain ⟨r5, e_r5, hf⟩ := hf
        refine ax_getR fl_1016 rfl dM_fitAll_32 e_r5 ?_
        refine ax_iload_n (i := 2) dM_fitAll_35 rfl rfl ?_
        replace hf := bd1_s hf
        obtain ⟨a6, e_d, hf⟩ := hf
        subst e_d
        replace hf := bd1_s hf
        obtain ⟨x7, e_x7, hf⟩ := hf
        refine ax_iald dM_fitAll_36 e_x7 ?_
        replace hf := ite_c hf
        rcases hf with ⟨hc, hf⟩ | ⟨hc, hf⟩
        · refine ax_icmp_gtT 44 dM_fitAll_37 (by decide) hc ?_
          refine ax_iconst (0 : Int32) dM_fitAll_44 k32_0 ?_
          cases hf
          exact K
        · refine ax_icmp_gtF 44 dM_fitAll_37 (by decide) hc ?_
          refine ax_iconst (1 : Int32) dM_fitAll_40 k32_1 ?_
          refine ax_goto 45 dM_fitAll_41 (by decide) ?_
          cases hf
          exact K
    · refine ax_icmp_geT 52 dM_fitAll_6 (by decide) hc ?_
      refine ax_mask [true, true, true, false, true] rfl [some (va_rf (some y0)), some (.int y1), some (.int y2), none, none] rfl ?_
      exact hk h hf
theorem w_M_fitAll_L63 {l : Launch} {E : EN} {R : Room} {B : (Nat × Nat) × (Nat × Nat)} {Qf : QF} {ρ : Type} {res : ρ} (hR1 : 4 ≤ R.frames) (hR2 : 256 ≤ R.locals) {y0 : Nat} {y1 : Int32} {y2 : Int32} {k : Int32 → AH → Option (ρ)} (hk : ∀ (z3 : Int32) (h : AH), k z3 h = some res → AW l E mi_M_fitAll R B Qf 116 [some (va_rf (some y0)), some (.int y1), some (.int y2), some (.int z3), none] [] h) : ∀ (n : Nat) (z3 : Int32) (z4 : Int32) (h : AH), f_M_fitAll_L63 y0 y1 y2 k n z3 z4 h = some res → AW l E mi_M_fitAll R B Qf 63 [some (va_rf (some y0)), some (.int y1), some (.int y2), some (.int z3), some (.int z4)] [] h := by
  intro n
  induction n with
  | zero => intro z3 z4 h hf; cases hf
  | succ n ih =>
    intro z3 z4 h hf
    rw [f_M_fitAll_L63] at hf
    refine ax_iload (i := 4) dM_fitAll_63 rfl ?_
    refine ax_sipush (625 : Int32) dM_fitAll_65 k16_625 ?_
    replace hf := ite_c hf
    rcases hf with ⟨hc, hf⟩ | ⟨hc, hf⟩
    · refine ax_icmp_geF 116 dM_fitAll_68 (by decide) hc ?_
      refine ax_aload_n (i := 0) (some y0) dM_fitAll_71 rfl rfl ?_
      replace hf := bd1_s hf
      obtain ⟨r12, e_r12, hf⟩ := hf
      refine ax_getR fl_1062 rfl dM_fitAll_72 e_r12 ?_
      refine ax_iload (i := 4) dM_fitAll_75 rfl ?_
      replace hf := bd1_s hf
      obtain ⟨a13, e_d, hf⟩ := hf
      subst e_d
      replace hf := bd1_s hf
      obtain ⟨x14, e_x14, hf⟩ := hf
      refine ax_zald dM_fitAll_77 e_x14 ?_
      replace hf := ite_c hf
      rcases hf with ⟨hc, hf⟩ | ⟨hc, hf⟩
      · refine ax_if_eqT 110 dM_fitAll_78 (by decide) hc ?_
        refine ax_iinc (i := 4) (z4 + (1 : Int32)) [some (va_rf (some y0)), some (.int y1), some (.int y2), some (.int z3), some (.int (z4 + (1 : Int32)))] dM_fitAll_110 rfl (iic k32_1) (Or.inr (c1i rfl)) rfl ?_
        refine ax_goto 63 dM_fitAll_113 (by decide) ?_
        exact ih z3 (z4 + (1 : Int32)) h hf
      · refine ax_if_eqF 110 dM_fitAll_78 (by decide) hc ?_
        refine ax_aload_n (i := 0) (some y0) dM_fitAll_81 rfl rfl ?_
        refine ax_iload_n (i := 1) dM_fitAll_82 rfl rfl ?_
        refine ax_iload_n (i := 2) dM_fitAll_83 rfl rfl ?_
        refine ax_iload (i := 4) dM_fitAll_84 rfl ?_
        refine ax_bipush (25 : Int32) dM_fitAll_86 k8_25 ?_
        refine ax_idiv dM_fitAll_88 (by decide) ?_
        refine ax_iload (i := 4) dM_fitAll_89 rfl ?_
        refine ax_bipush (25 : Int32) dM_fitAll_91 k8_25 ?_
        refine ax_irem dM_fitAll_93 (by decide) ?_
        replace hf := bd1_s hf
        obtain ⟨x15, e_x15, hf⟩ := hf
        obtain ⟨k_e_x15, e_x15⟩ := cv_s e_x15
        refine ax_callV (As := [.int y1, .int y2, .int (z4 / (25 : Int32)), .int (z4 - z4 / (25 : Int32) * (25 : Int32))]) (rest := []) (c_M_mayFit e_x15) ml_1362 cm_M_mayFit rfl k_e_x15 (Nat.le_trans (Nat.le_of_ble_eq_true rfl) hR1) (Nat.le_trans (Nat.le_of_ble_eq_true rfl) hR2) rfl rfl (Nat.le_of_ble_eq_true rfl) dM_fitAll_94 ?_
        replace hf := ite_c hf
        rcases hf with ⟨hc, hf⟩ | ⟨hc, hf⟩
        · refine ax_if_neF 110 dM_fitAll_97 (by decide) hc ?_
          refine ax_aload_n (i := 0) (some y0) dM_fitAll_100 rfl rfl ?_
          replace hf := bd1_s hf
          obtain ⟨r16, e_r16, hf⟩ := hf
          refine ax_getR fl_1062 rfl dM_fitAll_101 e_r16 ?_
          refine ax_iload (i := 4) dM_fitAll_104 rfl ?_
          refine ax_iconst (0 : Int32) dM_fitAll_106 k32_0 ?_
          replace hf := bd1_s hf
          obtain ⟨a17, e_d, hf⟩ := hf
          subst e_d
          replace hf := bd1_s hf
          obtain ⟨h18, e_h18, hf⟩ := hf
          refine ax_zast dM_fitAll_107 e_h18 ?_
          refine ax_iconst (1 : Int32) dM_fitAll_108 k32_1 ?_
          refine ax_istore_n (i := 3) [some (va_rf (some y0)), some (.int y1), some (.int y2), some (.int (1 : Int32)), some (.int z4)] dM_fitAll_109 rfl (Nat.le_of_ble_eq_true rfl) (Or.inr (c1i rfl)) rfl ?_
          refine ax_iinc (i := 4) (z4 + (1 : Int32)) [some (va_rf (some y0)), some (.int y1), some (.int y2), some (.int (1 : Int32)), some (.int (z4 + (1 : Int32)))] dM_fitAll_110 rfl (iic k32_1) (Or.inr (c1i rfl)) rfl ?_
          refine ax_goto 63 dM_fitAll_113 (by decide) ?_
          exact ih (1 : Int32) (z4 + (1 : Int32)) h18 hf
        · refine ax_if_neT 110 dM_fitAll_97 (by decide) hc ?_
          refine ax_iinc (i := 4) (z4 + (1 : Int32)) [some (va_rf (some y0)), some (.int y1), some (.int y2), some (.int z3), some (.int (z4 + (1 : Int32)))] dM_fitAll_110 rfl (iic k32_1) (Or.inr (c1i rfl)) rfl ?_
          refine ax_goto 63 dM_fitAll_113 (by decide) ?_
          exact ih z3 (z4 + (1 : Int32)) h hf
    · refine ax_icmp_geT 116 dM_fitAll_68 (by decide) hc ?_
      refine ax_mask [true, true, true, true, false] rfl [some (va_rf (some y0)), some (.int y1), some (.int y2), some (.int z3), none] rfl ?_
      exact hk z3 h hf
theorem w_M_fitAll_L54 {l : Launch} {E : EN} {R : Room} {B : (Nat × Nat) × (Nat × Nat)} {Qf : QF} {hF : AH} (hR1 : 4 ≤ R.frames) (hR2 : 256 ≤ R.locals) (Hr : ∀ (pc : Nat) (L : List (Option Value)), decode mi_M_fitAll.2.1 pc = .ok (.return_, 1) → AW l E mi_M_fitAll R B Qf pc L [] hF) {y0 : Nat} {y1 : Int32} {y2 : Int32} : ∀ (n : Nat) (z3 : Int32) (h : AH), f_M_fitAll_L54 y0 y1 y2 n z3 h = some hF → AW l E mi_M_fitAll R B Qf 54 [some (va_rf (some y0)), some (.int y1), some (.int y2), some (.int z3), none] [] h := by
  intro n
  induction n with
  | zero => intro z3 h hf; cases hf
  | succ n ih =>
    intro z3 h hf
    rw [f_M_fitAll_L54] at hf
    refine ax_iload_n (i := 3) dM_fitAll_54 rfl rfl ?_
    replace hf := ite_c hf
    rcases hf with ⟨hc, hf⟩ | ⟨hc, hf⟩
    · refine ax_if_eqT 119 dM_fitAll_55 (by decide) hc ?_
      cases hf
      exact Hr _ _ dM_fitAll_119
    · refine ax_if_eqF 119 dM_fitAll_55 (by decide) hc ?_
      refine ax_iconst (0 : Int32) dM_fitAll_58 k32_0 ?_
      refine ax_istore_n (i := 3) [some (va_rf (some y0)), some (.int y1), some (.int y2), some (.int (0 : Int32)), none] dM_fitAll_59 rfl (Nat.le_of_ble_eq_true rfl) (Or.inr (c1i rfl)) rfl ?_
      refine ax_iconst (0 : Int32) dM_fitAll_60 k32_0 ?_
      refine ax_istore (i := 4) [some (va_rf (some y0)), some (.int y1), some (.int y2), some (.int (0 : Int32)), some (.int (0 : Int32))] dM_fitAll_61 (Nat.le_of_ble_eq_true rfl) (Or.inr (c1i rfl)) rfl ?_
      refine w_M_fitAll_L63 hR1 hR2 (fun x19 h20 hf => ?_) FU (0 : Int32) (0 : Int32) h hf
      refine ax_goto 54 dM_fitAll_116 (by decide) ?_
      exact ih x19 h20 hf
theorem v_M_fitAll {l : Launch} {E : EN} {R : Room} {B : (Nat × Nat) × (Nat × Nat)} {Qf : QF} {h0 : AH} {o : Nat} {p1 : Int32} {p2 : Int32} {hF : AH} (hR1 : 4 ≤ R.frames) (hR2 : 256 ≤ R.locals) (Hr : ∀ (pc : Nat) (L : List (Option Value)), decode mi_M_fitAll.2.1 pc = .ok (.return_, 1) → AW l E mi_M_fitAll R B Qf pc L [] hF) (hf : f_M_fitAll h0 o p1 p2 = some hF) : AW l E mi_M_fitAll R B Qf 0 [some (va_rf (some o)), some (.int p1), some (.int p2), none, none] [] h0 := by
  unfold f_M_fitAll at hf
  refine ax_iconst (0 : Int32) dM_fitAll_0 k32_0 ?_
  refine ax_istore_n (i := 3) [some (va_rf (some o)), some (.int p1), some (.int p2), some (.int (0 : Int32)), none] dM_fitAll_1 rfl (Nat.le_of_ble_eq_true rfl) (Or.inr (c1i rfl)) rfl ?_
  refine w_M_fitAll_L2 hR1 hR2 (fun h11 hf => ?_) FU (0 : Int32) h0 hf
  refine ax_iconst (1 : Int32) dM_fitAll_52 k32_1 ?_
  refine ax_istore_n (i := 3) [some (va_rf (some o)), some (.int p1), some (.int p2), some (.int (1 : Int32)), none] dM_fitAll_53 rfl (Nat.le_of_ble_eq_true rfl) (Or.inr (c1i rfl)) rfl ?_
  refine w_M_fitAll_L54 hR1 hR2 Hr FU (1 : Int32) h11 hf
theorem c_M_fitAll {l : Launch} {E : EN} {h0 : AH} {o : Nat} {p1 : Int32} {p2 : Int32} {hF : AH} (hf : f_M_fitAll h0 o p1 p2 = some hF) : AM l E 4 mi_M_fitAll [va_rf (some o), .int p1, .int p2] h0 none hF :=
  am_of2 [(va_rf (some o), false), (.int p1, false), (.int p2, false)] 2 ⟨cat_rf _, rfl, rfl, trivial⟩ rfl rfl (v_M_fitAll (Nat.le_refl _) (Nat.le_refl _) (fun pc L hd => ax_vret rfl hd rfl) hf)
theorem v_M_fit {l : Launch} {E : EN} {R : Room} {B : (Nat × Nat) × (Nat × Nat)} {Qf : QF} {h0 : AH} {o : Nat} {p1 : Int32} {p2 : Int32} {r : Int32} {hF : AH} (hR1 : 5 ≤ R.frames) (hR2 : 320 ≤ R.locals) (Hr : ∀ (pc : Nat) (L : List (Option Value)), decode mi_M_fit.2.1 pc = .ok (.ireturn, 1) → AW l E mi_M_fit R B Qf pc L [.int r] hF) (hf : f_M_fit h0 o p1 p2 = some (r, hF)) : AW l E mi_M_fit R B Qf 0 [some (va_rf (some o)), some (.int p1), some (.int p2)] [] h0 := by
  unfold f_M_fit at hf
  refine ax_aload_n (i := 0) (some o) dM_fit_0 rfl rfl ?_
  refine ax_iload_n (i := 1) dM_fit_1 rfl rfl ?_
  replace hf := bd1_s hf
  obtain ⟨x1, e_x1, hf⟩ := hf
  obtain ⟨k_e_x1, e_x1⟩ := cv_s e_x1
  refine ax_callV (As := [.int p1]) (rest := []) (c_M_isTalk e_x1) ml_1253 cm_M_isTalk rfl k_e_x1 (Nat.le_trans (Nat.le_of_ble_eq_true rfl) hR1) (Nat.le_trans (Nat.le_of_ble_eq_true rfl) hR2) rfl rfl (Nat.le_of_ble_eq_true rfl) dM_fit_2 ?_
  replace hf := ite_c hf
  rcases hf with ⟨hc, hf⟩ | ⟨hc, hf⟩
  · refine ax_if_eqT 16 dM_fit_5 (by decide) hc ?_
    refine ax_bipush (-101 : Int32) dM_fit_16 k8_m101 ?_
    cases hf
    exact Hr _ _ dM_fit_18
  · refine ax_if_eqF 16 dM_fit_5 (by decide) hc ?_
    refine ax_aload_n (i := 0) (some o) dM_fit_8 rfl rfl ?_
    refine ax_iload_n (i := 2) dM_fit_9 rfl rfl ?_
    replace hf := bd1_s hf
    obtain ⟨x2, e_x2, hf⟩ := hf
    obtain ⟨k_e_x2, e_x2⟩ := cv_s e_x2
    refine ax_callV (As := [.int p2]) (rest := []) (c_M_isTalk e_x2) ml_1253 cm_M_isTalk rfl k_e_x2 (Nat.le_trans (Nat.le_of_ble_eq_true rfl) hR1) (Nat.le_trans (Nat.le_of_ble_eq_true rfl) hR2) rfl rfl (Nat.le_of_ble_eq_true rfl) dM_fit_10 ?_
    replace hf := ite_c hf
    rcases hf with ⟨hc, hf⟩ | ⟨hc, hf⟩
    · refine ax_if_neF 19 dM_fit_13 (by decide) hc ?_
      refine ax_bipush (-101 : Int32) dM_fit_16 k8_m101 ?_
      cases hf
      exact Hr _ _ dM_fit_18
    · refine ax_if_neT 19 dM_fit_13 (by decide) hc ?_
      refine ax_aload_n (i := 0) (some o) dM_fit_19 rfl rfl ?_
      refine ax_iload_n (i := 1) dM_fit_20 rfl rfl ?_
      refine ax_iload_n (i := 2) dM_fit_21 rfl rfl ?_
      replace hf := bd1_s hf
      obtain ⟨h3, e_h3, hf⟩ := hf
      obtain ⟨k_e_h3, e_h3⟩ := cv_s e_h3
      refine ax_callV (As := [.int p1, .int p2]) (rest := []) (c_M_fitAll e_h3) ml_1358 cm_M_fitAll rfl k_e_h3 (Nat.le_trans (Nat.le_of_ble_eq_true rfl) hR1) (Nat.le_trans (Nat.le_of_ble_eq_true rfl) hR2) rfl rfl (Nat.le_of_ble_eq_true rfl) dM_fit_22 ?_
      refine ax_aload_n (i := 0) (some o) dM_fit_25 rfl rfl ?_
      replace hf := bd1_s hf
      obtain ⟨r4, e_r4, hf⟩ := hf
      refine ax_getR fl_1062 rfl dM_fit_26 e_r4 ?_
      refine ax_iconst (0 : Int32) dM_fit_29 k32_0 ?_
      replace hf := bd1_s hf
      obtain ⟨a5, e_d, hf⟩ := hf
      subst e_d
      replace hf := bd1_s hf
      obtain ⟨x6, e_x6, hf⟩ := hf
      refine ax_zald dM_fit_30 e_x6 ?_
      replace hf := ite_c hf
      rcases hf with ⟨hc, hf⟩ | ⟨hc, hf⟩
      · refine ax_if_eqT 38 dM_fit_31 (by decide) hc ?_
        refine ax_iconst (0 : Int32) dM_fit_38 k32_0 ?_
        cases hf
        exact Hr _ _ dM_fit_39
      · refine ax_if_eqF 38 dM_fit_31 (by decide) hc ?_
        refine ax_iconst (1 : Int32) dM_fit_34 k32_1 ?_
        refine ax_goto 39 dM_fit_35 (by decide) ?_
        cases hf
        exact Hr _ _ dM_fit_39
theorem c_M_fit {l : Launch} {E : EN} {h0 : AH} {o : Nat} {p1 : Int32} {p2 : Int32} {r : Int32} {hF : AH} (hf : f_M_fit h0 o p1 p2 = some (r, hF)) : AM l E 5 mi_M_fit [va_rf (some o), .int p1, .int p2] h0 (some (.int r)) hF :=
  am_of2 [(va_rf (some o), false), (.int p1, false), (.int p2, false)] 0 ⟨cat_rf _, rfl, rfl, trivial⟩ rfl rfl (v_M_fit (Nat.le_refl _) (Nat.le_refl _) (fun pc L hd => ax_iret rfl hd rfl) hf)
theorem w_M_swap_L29 {l : Launch} {E : EN} {R : Room} {B : (Nat × Nat) × (Nat × Nat)} {Qf : QF} {h0 : AH} {r : Int32} {hF : AH} (hR1 : 5 ≤ R.frames) (hR2 : 320 ≤ R.locals) (Hr : ∀ (pc : Nat) (L : List (Option Value)), decode mi_M_swap.2.1 pc = .ok (.ireturn, 1) → AW l E mi_M_swap R B Qf pc L [.int r] hF) {y0 : Nat} {y1 : Int32} {y3 : Int32} : ∀ (n : Nat) (z4 : Int32), f_M_swap_L29 h0 y0 y1 y3 n z4 = some (r, hF) → AW l E mi_M_swap R B Qf 29 [some (va_rf (some y0)), some (.int y1), none, some (.int y3), some (.int z4)] [] h0 := by
  intro n
  induction n with
  | zero => intro z4 hf; cases hf
  | succ n ih =>
    intro z4 hf
    rw [f_M_swap_L29] at hf
    refine ax_iload (i := 4) dM_swap_29 rfl ?_
    refine ax_aload_n (i := 0) (some y0) dM_swap_31 rfl rfl ?_
    replace hf := bd1_s hf
    obtain ⟨r4, e_r4, hf⟩ := hf
    refine ax_getR fl_1016 rfl dM_swap_32 e_r4 ?_
    refine ax_iload_n (i := 1) dM_swap_35 rfl rfl ?_
    replace hf := bd1_s hf
    obtain ⟨a5, e_d, hf⟩ := hf
    subst e_d
    replace hf := bd1_s hf
    obtain ⟨x6, e_x6, hf⟩ := hf
    refine ax_iald dM_swap_36 e_x6 ?_
    replace hf := ite_c hf
    rcases hf with ⟨hc, hf⟩ | ⟨hc, hf⟩
    · refine ax_icmp_gtT 64 dM_swap_37 (by decide) hc ?_
      refine ax_iconst (-1 : Int32) dM_swap_64 k32_m1 ?_
      cases hf
      exact Hr _ _ dM_swap_65
    · refine ax_icmp_gtF 64 dM_swap_37 (by decide) hc ?_
      refine ax_aload_n (i := 0) (some y0) dM_swap_40 rfl rfl ?_
      replace hf := bd1_s hf
      obtain ⟨r7, e_r7, hf⟩ := hf
      refine ax_getR fl_1062 rfl dM_swap_41 e_r7 ?_
      refine ax_bipush (25 : Int32) dM_swap_44 k8_25 ?_
      refine ax_iload (i := 4) dM_swap_46 rfl ?_
      refine ax_imul dM_swap_48 ?_
      refine ax_iload_n (i := 3) dM_swap_49 rfl rfl ?_
      refine ax_iadd dM_swap_50 ?_
      replace hf := bd1_s hf
      obtain ⟨a8, e_d, hf⟩ := hf
      subst e_d
      replace hf := bd1_s hf
      obtain ⟨x9, e_x9, hf⟩ := hf
      refine ax_zald dM_swap_51 e_x9 ?_
      replace hf := ite_c hf
      rcases hf with ⟨hc, hf⟩ | ⟨hc, hf⟩
      · refine ax_if_eqT 58 dM_swap_52 (by decide) hc ?_
        refine ax_iinc (i := 4) (z4 + (1 : Int32)) [some (va_rf (some y0)), some (.int y1), none, some (.int y3), some (.int (z4 + (1 : Int32)))] dM_swap_58 rfl (iic k32_1) (Or.inr (c1i rfl)) rfl ?_
        refine ax_goto 29 dM_swap_61 (by decide) ?_
        exact ih (z4 + (1 : Int32)) hf
      · refine ax_if_eqF 58 dM_swap_52 (by decide) hc ?_
        refine ax_iload (i := 4) dM_swap_55 rfl ?_
        cases hf
        exact Hr _ _ dM_swap_57
theorem v_M_swap {l : Launch} {E : EN} {R : Room} {B : (Nat × Nat) × (Nat × Nat)} {Qf : QF} {h0 : AH} {o : Nat} {p1 : Int32} {p2 : Int32} {p3 : Int32} {r : Int32} {hF : AH} (hR1 : 5 ≤ R.frames) (hR2 : 320 ≤ R.locals) (Hr : ∀ (pc : Nat) (L : List (Option Value)), decode mi_M_swap.2.1 pc = .ok (.ireturn, 1) → AW l E mi_M_swap R B Qf pc L [.int r] hF) (hf : f_M_swap h0 o p1 p2 p3 = some (r, hF)) : AW l E mi_M_swap R B Qf 0 [some (va_rf (some o)), some (.int p1), some (.int p2), some (.int p3), none] [] h0 := by
  unfold f_M_swap at hf
  refine ax_aload_n (i := 0) (some o) dM_swap_0 rfl rfl ?_
  refine ax_iload_n (i := 1) dM_swap_1 rfl rfl ?_
  replace hf := bd1_s hf
  obtain ⟨x1, e_x1, hf⟩ := hf
  obtain ⟨k_e_x1, e_x1⟩ := cv_s e_x1
  refine ax_callV (As := [.int p1]) (rest := []) (c_M_isTalk e_x1) ml_1253 cm_M_isTalk rfl k_e_x1 (Nat.le_trans (Nat.le_of_ble_eq_true rfl) hR1) (Nat.le_trans (Nat.le_of_ble_eq_true rfl) hR2) rfl rfl (Nat.le_of_ble_eq_true rfl) dM_swap_2 ?_
  replace hf := ite_c hf
  rcases hf with ⟨hc, hf⟩ | ⟨hc, hf⟩
  · refine ax_if_eqT 17 dM_swap_5 (by decide) hc ?_
    refine ax_bipush (-101 : Int32) dM_swap_17 k8_m101 ?_
    cases hf
    exact Hr _ _ dM_swap_19
  · refine ax_if_eqF 17 dM_swap_5 (by decide) hc ?_
    refine ax_aload_n (i := 0) (some o) dM_swap_8 rfl rfl ?_
    refine ax_iload_n (i := 2) dM_swap_9 rfl rfl ?_
    refine ax_iload_n (i := 3) dM_swap_10 rfl rfl ?_
    replace hf := bd1_s hf
    obtain ⟨x2, e_x2, hf⟩ := hf
    obtain ⟨k_e_x2, e_x2⟩ := cv_s e_x2
    refine ax_callV (As := [.int p2, .int p3]) (rest := []) (c_M_isState e_x2) ml_1261 cm_M_isState rfl k_e_x2 (Nat.le_trans (Nat.le_of_ble_eq_true rfl) hR1) (Nat.le_trans (Nat.le_of_ble_eq_true rfl) hR2) rfl rfl (Nat.le_of_ble_eq_true rfl) dM_swap_11 ?_
    replace hf := ite_c hf
    rcases hf with ⟨hc, hf⟩ | ⟨hc, hf⟩
    · refine ax_if_neF 20 dM_swap_14 (by decide) hc ?_
      refine ax_bipush (-101 : Int32) dM_swap_17 k8_m101 ?_
      cases hf
      exact Hr _ _ dM_swap_19
    · refine ax_if_neT 20 dM_swap_14 (by decide) hc ?_
      refine ax_aload_n (i := 0) (some o) dM_swap_20 rfl rfl ?_
      refine ax_iload_n (i := 1) dM_swap_21 rfl rfl ?_
      refine ax_iload_n (i := 2) dM_swap_22 rfl rfl ?_
      replace hf := bd1_s hf
      obtain ⟨h3, e_h3, hf⟩ := hf
      obtain ⟨k_e_h3, e_h3⟩ := cv_s e_h3
      refine ax_callV (As := [.int p1, .int p2]) (rest := []) (c_M_fitAll e_h3) ml_1358 cm_M_fitAll rfl k_e_h3 (Nat.le_trans (Nat.le_of_ble_eq_true rfl) hR1) (Nat.le_trans (Nat.le_of_ble_eq_true rfl) hR2) rfl rfl (Nat.le_of_ble_eq_true rfl) dM_swap_23 ?_
      refine ax_iconst (0 : Int32) dM_swap_26 k32_0 ?_
      refine ax_istore (i := 4) [some (va_rf (some o)), some (.int p1), some (.int p2), some (.int p3), some (.int (0 : Int32))] dM_swap_27 (Nat.le_of_ble_eq_true rfl) (Or.inr (c1i rfl)) rfl ?_
      refine ax_mask [true, true, false, true, true] rfl [some (va_rf (some o)), some (.int p1), none, some (.int p3), some (.int (0 : Int32))] rfl ?_
      refine w_M_swap_L29 hR1 hR2 Hr FU (0 : Int32) hf
theorem c_M_swap {l : Launch} {E : EN} {h0 : AH} {o : Nat} {p1 : Int32} {p2 : Int32} {p3 : Int32} {r : Int32} {hF : AH} (hf : f_M_swap h0 o p1 p2 p3 = some (r, hF)) : AM l E 5 mi_M_swap [va_rf (some o), .int p1, .int p2, .int p3] h0 (some (.int r)) hF :=
  am_of2 [(va_rf (some o), false), (.int p1, false), (.int p2, false), (.int p3, false)] 1 ⟨cat_rf _, rfl, rfl, rfl, trivial⟩ rfl rfl (v_M_swap (Nat.le_refl _) (Nat.le_refl _) (fun pc L hd => ax_iret rfl hd rfl) hf)
theorem v_M_messagesOf {l : Launch} {E : EN} {R : Room} {B : (Nat × Nat) × (Nat × Nat)} {Qf : QF} {h0 : AH} {o : Nat} {p1 : Int32} {r : Int32} (hR1 : 4 ≤ R.frames) (hR2 : 256 ≤ R.locals) (Hr : ∀ (pc : Nat) (L : List (Option Value)), decode mi_M_messagesOf.2.1 pc = .ok (.ireturn, 1) → AW l E mi_M_messagesOf R B Qf pc L [.int r] h0) (hf : f_M_messagesOf h0 o p1 = some r) : AW l E mi_M_messagesOf R B Qf 0 [some (va_rf (some o)), some (.int p1)] [] h0 := by
  unfold f_M_messagesOf at hf
  refine ax_aload_n (i := 0) (some o) dM_messagesOf_0 rfl rfl ?_
  refine ax_iload_n (i := 1) dM_messagesOf_1 rfl rfl ?_
  refine ax_iconst (0 : Int32) dM_messagesOf_2 k32_0 ?_
  replace hf := bd1_s hf
  obtain ⟨x1, e_x1, hf⟩ := hf
  obtain ⟨k_e_x1, e_x1⟩ := cv_s e_x1
  refine ax_callV (As := [.int p1, .int (0 : Int32)]) (rest := []) (c_M_usesOf e_x1) ml_1273 cm_M_usesOf rfl k_e_x1 (Nat.le_trans (Nat.le_of_ble_eq_true rfl) hR1) (Nat.le_trans (Nat.le_of_ble_eq_true rfl) hR2) rfl rfl (Nat.le_of_ble_eq_true rfl) dM_messagesOf_3 ?_
  refine ax_aload_n (i := 0) (some o) dM_messagesOf_6 rfl rfl ?_
  refine ax_iload_n (i := 1) dM_messagesOf_7 rfl rfl ?_
  refine ax_iconst (1 : Int32) dM_messagesOf_8 k32_1 ?_
  replace hf := bd1_s hf
  obtain ⟨x2, e_x2, hf⟩ := hf
  obtain ⟨k_e_x2, e_x2⟩ := cv_s e_x2
  refine ax_callV (As := [.int p1, .int (1 : Int32)]) (rest := [.int x1]) (c_M_usesOf e_x2) ml_1273 cm_M_usesOf rfl k_e_x2 (Nat.le_trans (Nat.le_of_ble_eq_true rfl) hR1) (Nat.le_trans (Nat.le_of_ble_eq_true rfl) hR2) rfl rfl (Nat.le_of_ble_eq_true rfl) dM_messagesOf_9 ?_
  refine ax_ior dM_messagesOf_12 ?_
  cases hf
  exact Hr _ _ dM_messagesOf_13
theorem c_M_messagesOf {l : Launch} {E : EN} {h0 : AH} {o : Nat} {p1 : Int32} {r : Int32} (hf : f_M_messagesOf h0 o p1 = some r) : AM l E 4 mi_M_messagesOf [va_rf (some o), .int p1] h0 (some (.int r)) h0 :=
  am_of2 [(va_rf (some o), false), (.int p1, false)] 0 ⟨cat_rf _, rfl, trivial⟩ rfl rfl (v_M_messagesOf (Nat.le_refl _) (Nat.le_refl _) (fun pc L hd => ax_iret rfl hd rfl) hf)
theorem w_M_ones_L4 {l : Launch} {E : EN} {R : Room} {B : (Nat × Nat) × (Nat × Nat)} {Qf : QF} {h0 : AH} {r : Int32} (hR1 : 1 ≤ R.frames) (hR2 : 64 ≤ R.locals) (Hr : ∀ (pc : Nat) (L : List (Option Value)), decode mi_M_ones.2.1 pc = .ok (.ireturn, 1) → AW l E mi_M_ones R B Qf pc L [.int r] h0) : ∀ (n : Nat) (z1 : Int32) (z2 : Int32), f_M_ones_L4 h0 n z1 z2 = some r → AW l E mi_M_ones R B Qf 4 [none, some (.int z1), some (.int z2)] [] h0 := by
  intro n
  induction n with
  | zero => intro z1 z2 hf; cases hf
  | succ n ih =>
    intro z1 z2 hf
    rw [f_M_ones_L4] at hf
    refine ax_iload_n (i := 2) dM_ones_4 rfl rfl ?_
    replace hf := ite_c hf
    rcases hf with ⟨hc, hf⟩ | ⟨hc, hf⟩
    · refine ax_if_eqT 20 dM_ones_5 (by decide) hc ?_
      refine ax_iload_n (i := 1) dM_ones_20 rfl rfl ?_
      cases hf
      exact Hr _ _ dM_ones_21
    · refine ax_if_eqF 20 dM_ones_5 (by decide) hc ?_
      refine ax_iinc (i := 1) (z1 + (1 : Int32)) [none, some (.int (z1 + (1 : Int32))), some (.int z2)] dM_ones_8 rfl (iic k32_1) (Or.inr (c1n rfl)) rfl ?_
      refine ax_iload_n (i := 2) dM_ones_11 rfl rfl ?_
      refine ax_iload_n (i := 2) dM_ones_12 rfl rfl ?_
      refine ax_iconst (1 : Int32) dM_ones_13 k32_1 ?_
      refine ax_isub dM_ones_14 ?_
      refine ax_iand dM_ones_15 ?_
      replace hf := bd1_s hf
      obtain ⟨x1, e_x1, hf⟩ := hf
      refine ax_nmI (Option.some.inj e_x1) ?_
      refine ax_istore_n (i := 2) [none, some (.int (z1 + (1 : Int32))), some (.int x1)] dM_ones_16 rfl (Nat.le_of_ble_eq_true rfl) (Or.inr (c1i rfl)) rfl ?_
      refine ax_goto 4 dM_ones_17 (by decide) ?_
      exact ih (z1 + (1 : Int32)) x1 hf
theorem v_M_ones {l : Launch} {E : EN} {R : Room} {B : (Nat × Nat) × (Nat × Nat)} {Qf : QF} {h0 : AH} {p1 : Int32} {r : Int32} (hR1 : 1 ≤ R.frames) (hR2 : 64 ≤ R.locals) (Hr : ∀ (pc : Nat) (L : List (Option Value)), decode mi_M_ones.2.1 pc = .ok (.ireturn, 1) → AW l E mi_M_ones R B Qf pc L [.int r] h0) (hf : f_M_ones h0 p1 = some r) : AW l E mi_M_ones R B Qf 0 [some (.int p1), none, none] [] h0 := by
  unfold f_M_ones at hf
  refine ax_iconst (0 : Int32) dM_ones_0 k32_0 ?_
  refine ax_istore_n (i := 1) [some (.int p1), some (.int (0 : Int32)), none] dM_ones_1 rfl (Nat.le_of_ble_eq_true rfl) (Or.inr (c1i rfl)) rfl ?_
  refine ax_iload_n (i := 0) dM_ones_2 rfl rfl ?_
  refine ax_istore_n (i := 2) [some (.int p1), some (.int (0 : Int32)), some (.int p1)] dM_ones_3 rfl (Nat.le_of_ble_eq_true rfl) (Or.inr (c1i rfl)) rfl ?_
  refine ax_mask [false, true, true] rfl [none, some (.int (0 : Int32)), some (.int p1)] rfl ?_
  refine w_M_ones_L4 hR1 hR2 Hr FU (0 : Int32) p1 hf
theorem c_M_ones {l : Launch} {E : EN} {h0 : AH} {p1 : Int32} {r : Int32} (hf : f_M_ones h0 p1 = some r) : AM l E 1 mi_M_ones [.int p1] h0 (some (.int r)) h0 :=
  am_of2 [(.int p1, false)] 2 ⟨rfl, trivial⟩ rfl rfl (v_M_ones (Nat.le_refl _) (Nat.le_refl _) (fun pc L hd => ax_iret rfl hd rfl) hf)
theorem v_M_barred {l : Launch} {E : EN} {R : Room} {B : (Nat × Nat) × (Nat × Nat)} {Qf : QF} {h0 : AH} {o : Nat} {p1 : Int32} {p2 : Int32} {r : Int32} (hR1 : 5 ≤ R.frames) (hR2 : 320 ≤ R.locals) (Hr : ∀ (pc : Nat) (L : List (Option Value)), decode mi_M_barred.2.1 pc = .ok (.ireturn, 1) → AW l E mi_M_barred R B Qf pc L [.int r] h0) (hf : f_M_barred h0 o p1 p2 = some r) : AW l E mi_M_barred R B Qf 0 [some (va_rf (some o)), some (.int p1), some (.int p2)] [] h0 := by
  unfold f_M_barred at hf
  refine ax_aload_n (i := 0) (some o) dM_barred_0 rfl rfl ?_
  refine ax_iload_n (i := 1) dM_barred_1 rfl rfl ?_
  replace hf := bd1_s hf
  obtain ⟨x1, e_x1, hf⟩ := hf
  obtain ⟨k_e_x1, e_x1⟩ := cv_s e_x1
  refine ax_callV (As := [.int p1]) (rest := []) (c_M_isTalk e_x1) ml_1253 cm_M_isTalk rfl k_e_x1 (Nat.le_trans (Nat.le_of_ble_eq_true rfl) hR1) (Nat.le_trans (Nat.le_of_ble_eq_true rfl) hR2) rfl rfl (Nat.le_of_ble_eq_true rfl) dM_barred_2 ?_
  replace hf := ite_c hf
  rcases hf with ⟨hc, hf⟩ | ⟨hc, hf⟩
  · refine ax_if_eqT 16 dM_barred_5 (by decide) hc ?_
    refine ax_bipush (-101 : Int32) dM_barred_16 k8_m101 ?_
    cases hf
    exact Hr _ _ dM_barred_18
  · refine ax_if_eqF 16 dM_barred_5 (by decide) hc ?_
    refine ax_aload_n (i := 0) (some o) dM_barred_8 rfl rfl ?_
    refine ax_iload_n (i := 2) dM_barred_9 rfl rfl ?_
    replace hf := bd1_s hf
    obtain ⟨x2, e_x2, hf⟩ := hf
    obtain ⟨k_e_x2, e_x2⟩ := cv_s e_x2
    refine ax_callV (As := [.int p2]) (rest := []) (c_M_isTalk e_x2) ml_1253 cm_M_isTalk rfl k_e_x2 (Nat.le_trans (Nat.le_of_ble_eq_true rfl) hR1) (Nat.le_trans (Nat.le_of_ble_eq_true rfl) hR2) rfl rfl (Nat.le_of_ble_eq_true rfl) dM_barred_10 ?_
    replace hf := ite_c hf
    rcases hf with ⟨hc, hf⟩ | ⟨hc, hf⟩
    · refine ax_if_neF 19 dM_barred_13 (by decide) hc ?_
      refine ax_bipush (-101 : Int32) dM_barred_16 k8_m101 ?_
      cases hf
      exact Hr _ _ dM_barred_18
    · refine ax_if_neT 19 dM_barred_13 (by decide) hc ?_
      refine ax_aload_n (i := 0) (some o) dM_barred_19 rfl rfl ?_
      refine ax_iload_n (i := 1) dM_barred_20 rfl rfl ?_
      replace hf := bd1_s hf
      obtain ⟨x3, e_x3, hf⟩ := hf
      obtain ⟨k_e_x3, e_x3⟩ := cv_s e_x3
      refine ax_callV (As := [.int p1]) (rest := []) (c_M_messagesOf e_x3) ml_1378 cm_M_messagesOf rfl k_e_x3 (Nat.le_trans (Nat.le_of_ble_eq_true rfl) hR1) (Nat.le_trans (Nat.le_of_ble_eq_true rfl) hR2) rfl rfl (Nat.le_of_ble_eq_true rfl) dM_barred_21 ?_
      replace hf := bd1_s hf
      obtain ⟨x4, e_x4, hf⟩ := hf
      refine ax_callS (As := [.int x3]) (rest := []) (c_M_ones e_x4) ml_1382 cm_M_ones (Nat.le_trans (Nat.le_of_ble_eq_true rfl) hR1) (Nat.le_trans (Nat.le_of_ble_eq_true rfl) hR2) rfl rfl (Nat.le_of_ble_eq_true rfl) dM_barred_24 ?_
      refine ax_iconst (5 : Int32) dM_barred_27 k32_5 ?_
      replace hf := ite_c hf
      rcases hf with ⟨hc, hf⟩ | ⟨hc, hf⟩
      · refine ax_icmp_leF 36 dM_barred_28 (by decide) hc ?_
        refine ax_bipush (-102 : Int32) dM_barred_31 k8_m102 ?_
        refine ax_goto 51 dM_barred_33 (by decide) ?_
        cases hf
        exact Hr _ _ dM_barred_51
      · refine ax_icmp_leT 36 dM_barred_28 (by decide) hc ?_
        refine ax_aload_n (i := 0) (some o) dM_barred_36 rfl rfl ?_
        replace hf := bd1_s hf
        obtain ⟨x5, e_x5, hf⟩ := hf
        refine ax_getI fl_1020 rfl dM_barred_37 e_x5 ?_
        refine ax_bipush (20 : Int32) dM_barred_40 k8_20 ?_
        replace hf := ite_c hf
        rcases hf with ⟨hc, hf⟩ | ⟨hc, hf⟩
        · refine ax_icmp_neF 50 dM_barred_42 (by decide) hc ?_
          refine ax_bipush (-103 : Int32) dM_barred_45 k8_m103 ?_
          refine ax_goto 51 dM_barred_47 (by decide) ?_
          cases hf
          exact Hr _ _ dM_barred_51
        · refine ax_icmp_neT 50 dM_barred_42 (by decide) hc ?_
          refine ax_iconst (0 : Int32) dM_barred_50 k32_0 ?_
          cases hf
          exact Hr _ _ dM_barred_51
theorem c_M_barred {l : Launch} {E : EN} {h0 : AH} {o : Nat} {p1 : Int32} {p2 : Int32} {r : Int32} (hf : f_M_barred h0 o p1 p2 = some r) : AM l E 5 mi_M_barred [va_rf (some o), .int p1, .int p2] h0 (some (.int r)) h0 :=
  am_of2 [(va_rf (some o), false), (.int p1, false), (.int p2, false)] 0 ⟨cat_rf _, rfl, rfl, trivial⟩ rfl rfl (v_M_barred (Nat.le_refl _) (Nat.le_refl _) (fun pc L hd => ax_iret rfl hd rfl) hf)
theorem w_M_lay_L9 {l : Launch} {E : EN} {R : Room} {B : (Nat × Nat) × (Nat × Nat)} {Qf : QF} {ρ : Type} {res : ρ} (hR1 : 1 ≤ R.frames) (hR2 : 64 ≤ R.locals) {y0 : Nat} {y1 : Int32} {y2 : Int32} {y4 : Int32} {y5 : Int32} {k : AH → Option (ρ)} (hk : ∀ (h : AH), k h = some res → AW l E mi_M_lay R B Qf 38 [some (va_rf (some y0)), some (.int y1), some (.int y2), none, some (.int y4), some (.int y5), none, none] [] h) : ∀ (n : Nat) (z6 : Int32) (h : AH), f_M_lay_L9 y0 y1 y2 y4 y5 k n z6 h = some res → AW l E mi_M_lay R B Qf 9 [some (va_rf (some y0)), some (.int y1), some (.int y2), none, some (.int y4), some (.int y5), some (.int z6), none] [] h := by
  intro n
  induction n with
  | zero => intro z6 h hf; cases hf
  | succ n ih =>
    intro z6 h hf
    rw [f_M_lay_L9] at hf
    refine ax_iload (i := 6) dM_lay_9 rfl ?_
    refine ax_bipush (8 : Int32) dM_lay_11 k8_8 ?_
    replace hf := ite_c hf
    rcases hf with ⟨hc, hf⟩ | ⟨hc, hf⟩
    · refine ax_icmp_geF 38 dM_lay_13 (by decide) hc ?_
      refine ax_aload_n (i := 0) (some y0) dM_lay_16 rfl rfl ?_
      replace hf := bd1_s hf
      obtain ⟨r1, e_r1, hf⟩ := hf
      refine ax_getR fl_1057 rfl dM_lay_17 e_r1 ?_
      refine ax_iload (i := 6) dM_lay_20 rfl ?_
      refine ax_iconst (-1 : Int32) dM_lay_22 k32_m1 ?_
      replace hf := bd1_s hf
      obtain ⟨a2, e_d, hf⟩ := hf
      subst e_d
      replace hf := bd1_s hf
      obtain ⟨h3, e_h3, hf⟩ := hf
      refine ax_iast dM_lay_23 e_h3 ?_
      refine ax_aload_n (i := 0) (some y0) dM_lay_24 rfl rfl ?_
      replace hf := bd1_s hf
      obtain ⟨r4, e_r4, hf⟩ := hf
      refine ax_getR fl_1056 rfl dM_lay_25 e_r4 ?_
      refine ax_iload (i := 6) dM_lay_28 rfl ?_
      refine ax_iconst (-1 : Int32) dM_lay_30 k32_m1 ?_
      replace hf := bd1_s hf
      obtain ⟨a5, e_d, hf⟩ := hf
      subst e_d
      replace hf := bd1_s hf
      obtain ⟨h6, e_h6, hf⟩ := hf
      refine ax_iast dM_lay_31 e_h6 ?_
      refine ax_iinc (i := 6) (z6 + (1 : Int32)) [some (va_rf (some y0)), some (.int y1), some (.int y2), none, some (.int y4), some (.int y5), some (.int (z6 + (1 : Int32))), none] dM_lay_32 rfl (iic k32_1) (Or.inr (c1i rfl)) rfl ?_
      refine ax_goto 9 dM_lay_35 (by decide) ?_
      exact ih (z6 + (1 : Int32)) h6 hf
    · refine ax_icmp_geT 38 dM_lay_13 (by decide) hc ?_
      refine ax_mask [true, true, true, true, true, true, false, true] rfl [some (va_rf (some y0)), some (.int y1), some (.int y2), none, some (.int y4), some (.int y5), none, none] rfl ?_
      exact hk h hf
theorem w_M_lay_L41 {l : Launch} {E : EN} {R : Room} {B : (Nat × Nat) × (Nat × Nat)} {Qf : QF} {r : Int32} {hF : AH} (hR1 : 1 ≤ R.frames) (hR2 : 64 ≤ R.locals) (Hr : (r = 0 ∨ r = 1) → ∀ (pc : Nat) (L : List (Option Value)), decode mi_M_lay.2.1 pc = .ok (.ireturn, 1) → AW l E mi_M_lay R B Qf pc L [.int r] hF) {y0 : Nat} {y1 : Int32} {y2 : Int32} : ∀ (n : Nat) (z4 : Int32) (z5 : Int32) (z6 : Int32) (h : AH), f_M_lay_L41 y0 y1 y2 n z4 z5 z6 h = some (r, hF) → AW l E mi_M_lay R B Qf 41 [some (va_rf (some y0)), some (.int y1), some (.int y2), none, some (.int z4), some (.int z5), some (.int z6), none] [] h := by
  intro n
  induction n with
  | zero => intro z4 z5 z6 h hf; cases hf
  | succ n ih =>
    intro z4 z5 z6 h hf
    rw [f_M_lay_L41] at hf
    refine ax_iload (i := 6) dM_lay_41 rfl ?_
    refine ax_bipush (8 : Int32) dM_lay_43 k8_8 ?_
    replace hf := ite_c hf
    rcases hf with ⟨hc, hf⟩ | ⟨hc, hf⟩
    · refine ax_icmp_geF 121 dM_lay_45 (by decide) hc ?_
      refine ax_iload_n (i := 1) dM_lay_48 rfl rfl ?_
      refine ax_iload (i := 6) dM_lay_49 rfl ?_
      refine ax_ishr dM_lay_51 ?_
      refine ax_iconst (1 : Int32) dM_lay_52 k32_1 ?_
      refine ax_iand dM_lay_53 ?_
      refine ax_iconst (1 : Int32) dM_lay_54 k32_1 ?_
      replace hf := ite_c hf
      rcases hf with ⟨hc, hf⟩ | ⟨hc, hf⟩
      · refine ax_icmp_neF 115 dM_lay_55 (by decide) hc ?_
        refine ax_iload (i := 4) dM_lay_58 rfl ?_
        refine ax_bipush (8 : Int32) dM_lay_60 k8_8 ?_
        refine ax_idiv dM_lay_62 (by decide) ?_
        replace hf := bd1_s hf
        obtain ⟨x8, e_x8, hf⟩ := hf
        refine ax_nmI (Option.some.inj e_x8) ?_
        refine ax_istore (i := 4) [some (va_rf (some y0)), some (.int y1), some (.int y2), none, some (.int x8), some (.int z5), some (.int z6), none] dM_lay_63 (Nat.le_of_ble_eq_true rfl) (Or.inr (c1n rfl)) rfl ?_
        refine ax_iload_n (i := 2) dM_lay_65 rfl rfl ?_
        refine ax_iload (i := 4) dM_lay_66 rfl ?_
        replace hf := ite_s hf
        obtain ⟨e_g68, hf⟩ := hf
        refine ax_idiv dM_lay_68 e_g68 ?_
        refine ax_bipush (8 : Int32) dM_lay_69 k8_8 ?_
        refine ax_irem dM_lay_71 (by decide) ?_
        replace hf := bd1_s hf
        obtain ⟨x9, e_x9, hf⟩ := hf
        refine ax_nmI (Option.some.inj e_x9) ?_
        refine ax_istore (i := 7) [some (va_rf (some y0)), some (.int y1), some (.int y2), none, some (.int x8), some (.int z5), some (.int z6), some (.int x9)] dM_lay_72 (Nat.le_of_ble_eq_true rfl) (Or.inr (c1i rfl)) rfl ?_
        refine ax_iload (i := 5) dM_lay_74 rfl ?_
        replace hf := bd1_s hf
        obtain ⟨x13, hT, hf⟩ := hf
        have K : AW l E mi_M_lay R B Qf 95 [some (va_rf (some y0)), some (.int y1), some (.int y2), none, some (.int x8), none, some (.int z6), some (.int x9)] [.int x13] h := by
          clear hT
          refine ax_istore (i := 5) [some (va_rf (some y0)), some (.int y1), some (.int y2), none, some (.int x8), some (.int x13), some (.int z6), some (.int x9)] dM_lay_95 (Nat.le_of_ble_eq_true rfl) (Or.inr (c1i rfl)) rfl ?_
          refine ax_aload_n (i := 0) (some y0) dM_lay_97 rfl rfl ?_
          replace hf := bd1_s hf
          obtain ⟨r14, e_r14, hf⟩ := hf
          refine ax_getR fl_1057 rfl dM_lay_98 e_r14 ?_
          refine ax_iload (i := 7) dM_lay_101 rfl ?_
          refine ax_iload (i := 6) dM_lay_103 rfl ?_
          replace hf := bd1_s hf
          obtain ⟨a15, e_d, hf⟩ := hf
          subst e_d
          replace hf := bd1_s hf
          obtain ⟨h16, e_h16, hf⟩ := hf
          refine ax_iast dM_lay_105 e_h16 ?_
          refine ax_aload_n (i := 0) (some y0) dM_lay_106 rfl rfl ?_
          replace hf := bd1_s hf
          obtain ⟨r17, e_r17, hf⟩ := hf
          refine ax_getR fl_1056 rfl dM_lay_107 e_r17 ?_
          refine ax_iload (i := 6) dM_lay_110 rfl ?_
          refine ax_iload (i := 7) dM_lay_112 rfl ?_
          replace hf := bd1_s hf
          obtain ⟨a18, e_d, hf⟩ := hf
          subst e_d
          replace hf := bd1_s hf
          obtain ⟨h19, e_h19, hf⟩ := hf
          refine ax_iast dM_lay_114 e_h19 ?_
          refine ax_iinc (i := 6) (z6 + (1 : Int32)) [some (va_rf (some y0)), some (.int y1), some (.int y2), none, some (.int x8), some (.int x13), some (.int (z6 + (1 : Int32))), some (.int x9)] dM_lay_115 rfl (iic k32_1) (Or.inr (c1i rfl)) rfl ?_
          refine ax_goto 41 dM_lay_118 (by decide) ?_
          refine ax_mask [true, true, true, true, true, true, true, false] rfl [some (va_rf (some y0)), some (.int y1), some (.int y2), none, some (.int x8), some (.int x13), some (.int (z6 + (1 : Int32))), none] rfl ?_
          exact ih x8 x13 (z6 + (1 : Int32)) h19 hf
        replace hf := hT
        clear hT
        replace hf := ite_c hf
        rcases hf with ⟨hc, hf⟩ | ⟨hc, hf⟩
        · refine ax_if_eqT 94 dM_lay_76 (by decide) hc ?_
          refine ax_iconst (0 : Int32) dM_lay_94 k32_0 ?_
          refine ax_mask [true, true, true, true, true, false, true, true] rfl [some (va_rf (some y0)), some (.int y1), some (.int y2), none, some (.int x8), none, some (.int z6), some (.int x9)] rfl ?_
          cases hf
          exact K
        · refine ax_if_eqF 94 dM_lay_76 (by decide) hc ?_
          refine ax_aload_n (i := 0) (some y0) dM_lay_79 rfl rfl ?_
          replace hf := bd1_s hf
          obtain ⟨r10, e_r10, hf⟩ := hf
          refine ax_getR fl_1057 rfl dM_lay_80 e_r10 ?_
          refine ax_iload (i := 7) dM_lay_83 rfl ?_
          replace hf := bd1_s hf
          obtain ⟨a11, e_d, hf⟩ := hf
          subst e_d
          replace hf := bd1_s hf
          obtain ⟨x12, e_x12, hf⟩ := hf
          refine ax_iald dM_lay_85 e_x12 ?_
          refine ax_iconst (-1 : Int32) dM_lay_86 k32_m1 ?_
          replace hf := ite_c hf
          rcases hf with ⟨hc, hf⟩ | ⟨hc, hf⟩
          · refine ax_icmp_neF 94 dM_lay_87 (by decide) hc ?_
            refine ax_iconst (1 : Int32) dM_lay_90 k32_1 ?_
            refine ax_goto 95 dM_lay_91 (by decide) ?_
            refine ax_mask [true, true, true, true, true, false, true, true] rfl [some (va_rf (some y0)), some (.int y1), some (.int y2), none, some (.int x8), none, some (.int z6), some (.int x9)] rfl ?_
            cases hf
            exact K
          · refine ax_icmp_neT 94 dM_lay_87 (by decide) hc ?_
            refine ax_iconst (0 : Int32) dM_lay_94 k32_0 ?_
            refine ax_mask [true, true, true, true, true, false, true, true] rfl [some (va_rf (some y0)), some (.int y1), some (.int y2), none, some (.int x8), none, some (.int z6), some (.int x9)] rfl ?_
            cases hf
            exact K
      · refine ax_icmp_neT 115 dM_lay_55 (by decide) hc ?_
        refine ax_iinc (i := 6) (z6 + (1 : Int32)) [some (va_rf (some y0)), some (.int y1), some (.int y2), none, some (.int z4), some (.int z5), some (.int (z6 + (1 : Int32))), none] dM_lay_115 rfl (iic k32_1) (Or.inr (c1i rfl)) rfl ?_
        refine ax_goto 41 dM_lay_118 (by decide) ?_
        exact ih z4 z5 (z6 + (1 : Int32)) h hf
    · refine ax_icmp_geT 121 dM_lay_45 (by decide) hc ?_
      refine ax_iload (i := 5) dM_lay_121 rfl ?_
      replace hf := ite_s hf
      obtain ⟨e_z, hf⟩ := hf
      cases hf
      exact Hr e_z _ _ dM_lay_123
theorem v_M_lay {l : Launch} {E : EN} {R : Room} {B : (Nat × Nat) × (Nat × Nat)} {Qf : QF} {h0 : AH} {o : Nat} {p1 : Int32} {p2 : Int32} {p3 : Int32} {r : Int32} {hF : AH} (hR1 : 1 ≤ R.frames) (hR2 : 64 ≤ R.locals) (Hr : (r = 0 ∨ r = 1) → ∀ (pc : Nat) (L : List (Option Value)), decode mi_M_lay.2.1 pc = .ok (.ireturn, 1) → AW l E mi_M_lay R B Qf pc L [.int r] hF) (hf : f_M_lay h0 o p1 p2 p3 = some (r, hF)) : AW l E mi_M_lay R B Qf 0 [some (va_rf (some o)), some (.int p1), some (.int p2), some (.int p3), none, none, none, none] [] h0 := by
  unfold f_M_lay at hf
  refine ax_iload_n (i := 3) dM_lay_0 rfl rfl ?_
  refine ax_istore (i := 4) [some (va_rf (some o)), some (.int p1), some (.int p2), some (.int p3), some (.int p3), none, none, none] dM_lay_1 (Nat.le_of_ble_eq_true rfl) (Or.inr (c1i rfl)) rfl ?_
  refine ax_iconst (1 : Int32) dM_lay_3 k32_1 ?_
  refine ax_istore (i := 5) [some (va_rf (some o)), some (.int p1), some (.int p2), some (.int p3), some (.int p3), some (.int (1 : Int32)), none, none] dM_lay_4 (Nat.le_of_ble_eq_true rfl) (Or.inr (c1i rfl)) rfl ?_
  refine ax_iconst (0 : Int32) dM_lay_6 k32_0 ?_
  refine ax_istore (i := 6) [some (va_rf (some o)), some (.int p1), some (.int p2), some (.int p3), some (.int p3), some (.int (1 : Int32)), some (.int (0 : Int32)), none] dM_lay_7 (Nat.le_of_ble_eq_true rfl) (Or.inr (c1i rfl)) rfl ?_
  refine ax_mask [true, true, true, false, true, true, true, true] rfl [some (va_rf (some o)), some (.int p1), some (.int p2), none, some (.int p3), some (.int (1 : Int32)), some (.int (0 : Int32)), none] rfl ?_
  refine w_M_lay_L9 hR1 hR2 (fun h7 hf => ?_) FU (0 : Int32) h0 hf
  refine ax_iconst (0 : Int32) dM_lay_38 k32_0 ?_
  refine ax_istore (i := 6) [some (va_rf (some o)), some (.int p1), some (.int p2), none, some (.int p3), some (.int (1 : Int32)), some (.int (0 : Int32)), none] dM_lay_39 (Nat.le_of_ble_eq_true rfl) (Or.inr (c1i rfl)) rfl ?_
  refine w_M_lay_L41 hR1 hR2 Hr FU p3 (1 : Int32) (0 : Int32) h7 hf
theorem c_M_lay {l : Launch} {E : EN} {h0 : AH} {o : Nat} {p1 : Int32} {p2 : Int32} {p3 : Int32} {r : Int32} {hF : AH} (hf : f_M_lay h0 o p1 p2 p3 = some (r, hF)) : AM l E 1 mi_M_lay [va_rf (some o), .int p1, .int p2, .int p3] h0 (some (.int r)) hF :=
  am_of2 [(va_rf (some o), false), (.int p1, false), (.int p2, false), (.int p3, false)] 4 ⟨cat_rf _, rfl, rfl, rfl, trivial⟩ rfl rfl (v_M_lay (Nat.le_refl _) (Nat.le_refl _) (fun hz pc L hd => ax_zret rfl hz hd rfl) hf)
