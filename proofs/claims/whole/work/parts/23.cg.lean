theorem w_Ad_find_L64 {l : Launch} {E : EN} {R : Room} {B : (Nat × Nat) × (Nat × Nat)} {Qf : QF} {ρ : Type} {res : ρ} (hR1 : 14 ≤ R.frames) (hR2 : 896 ≤ R.locals) {y0 : Nat} {y3 : Int32} {k : AH → Option (ρ)} (hk : ∀ (h : AH), k h = some res → AW l E mi_Ad_find R B Qf 115 [some (va_rf (some y0)), none, none, none, none] [] h) : ∀ (n : Nat) (z4 : Int32) (h : AH), f_Ad_find_L64 y0 y3 k n z4 h = some res → AW l E mi_Ad_find R B Qf 64 [some (va_rf (some y0)), none, none, some (.int y3), some (.int z4)] [] h := by
  intro n
  induction n with
  | zero => intro z4 h hf; cases hf
  | succ n ih =>
    intro z4 h hf
    rw [f_Ad_find_L64] at hf
    refine ax_iload (i := 4) dAd_find_64 rfl ?_
    refine ax_bipush (8 : Int32) dAd_find_66 k8_8 ?_
    replace hf := ite_c hf
    rcases hf with ⟨hc, hf⟩ | ⟨hc, hf⟩
    · refine ax_icmp_geF 115 dAd_find_68 (by decide) hc ?_
      refine ax_aload_n (i := 0) (some y0) dAd_find_71 rfl rfl ?_
      replace hf := bd1_s hf
      obtain ⟨x14, e_x14, hf⟩ := hf
      refine ax_getI fl_179 rfl dAd_find_72 e_x14 ?_
      refine ax_iconst (5 : Int32) dAd_find_75 k32_5 ?_
      replace hf := ite_c hf
      rcases hf with ⟨hc, hf⟩ | ⟨hc, hf⟩
      · refine ax_icmp_geF 115 dAd_find_76 (by decide) hc ?_
        refine ax_iload_n (i := 3) dAd_find_79 rfl rfl ?_
        refine ax_iload (i := 4) dAd_find_80 rfl ?_
        replace hf := bd1_s hf
        obtain ⟨x15, e_x15, hf⟩ := hf
        refine ax_callS (As := [.int y3, .int z4]) (rest := []) (c_C_hasBit e_x15) ml_651 cm_C_hasBit (Nat.le_trans (Nat.le_of_ble_eq_true rfl) hR1) (Nat.le_trans (Nat.le_of_ble_eq_true rfl) hR2) rfl rfl (Nat.le_of_ble_eq_true rfl) dAd_find_82 ?_
        replace hf := ite_c hf
        rcases hf with ⟨hc, hf⟩ | ⟨hc, hf⟩
        · refine ax_if_eqT 109 dAd_find_85 (by decide) hc ?_
          refine ax_iinc (i := 4) (z4 + (1 : Int32)) [some (va_rf (some y0)), none, none, some (.int y3), some (.int (z4 + (1 : Int32)))] dAd_find_109 rfl (iic k32_1) (Or.inr (c1i rfl)) rfl ?_
          refine ax_goto 64 dAd_find_112 (by decide) ?_
          exact ih (z4 + (1 : Int32)) h hf
        · refine ax_if_eqF 109 dAd_find_85 (by decide) hc ?_
          refine ax_aload_n (i := 0) (some y0) dAd_find_88 rfl rfl ?_
          replace hf := bd1_s hf
          obtain ⟨r16, e_r16, hf⟩ := hf
          refine ax_getR fl_178 rfl dAd_find_89 e_r16 ?_
          refine ax_aload_n (i := 0) (some y0) dAd_find_92 rfl rfl ?_
          replace hf := bd1_s hf
          obtain ⟨x17, e_x17, hf⟩ := hf
          refine ax_getI fl_179 rfl dAd_find_93 e_x17 ?_
          refine ax_iload (i := 4) dAd_find_96 rfl ?_
          replace hf := bd1_s hf
          obtain ⟨a18, e_d, hf⟩ := hf
          subst e_d
          replace hf := bd1_s hf
          obtain ⟨h19, e_h19, hf⟩ := hf
          refine ax_iast dAd_find_98 e_h19 ?_
          refine ax_aload_n (i := 0) (some y0) dAd_find_99 rfl rfl ?_
          refine ax_dup dAd_find_100 rfl ?_
          replace hf := bd1_s hf
          obtain ⟨x20, e_x20, hf⟩ := hf
          refine ax_getI fl_179 rfl dAd_find_101 e_x20 ?_
          refine ax_iconst (1 : Int32) dAd_find_104 k32_1 ?_
          refine ax_iadd dAd_find_105 ?_
          replace hf := bd1_s hf
          obtain ⟨h21, e_h21, hf⟩ := hf
          refine ax_putI fw_179 rfl rfl dAd_find_106 e_h21 ?_
          refine ax_iinc (i := 4) (z4 + (1 : Int32)) [some (va_rf (some y0)), none, none, some (.int y3), some (.int (z4 + (1 : Int32)))] dAd_find_109 rfl (iic k32_1) (Or.inr (c1i rfl)) rfl ?_
          refine ax_goto 64 dAd_find_112 (by decide) ?_
          exact ih (z4 + (1 : Int32)) h21 hf
      · refine ax_icmp_geT 115 dAd_find_76 (by decide) hc ?_
        refine ax_mask [true, true, true, false, false] rfl [some (va_rf (some y0)), none, none, none, none] rfl ?_
        exact hk h hf
    · refine ax_icmp_geT 115 dAd_find_68 (by decide) hc ?_
      refine ax_mask [true, true, true, false, false] rfl [some (va_rf (some y0)), none, none, none, none] rfl ?_
      exact hk h hf
theorem v_Ad_find {l : Launch} {E : EN} {R : Room} {B : (Nat × Nat) × (Nat × Nat)} {Qf : QF} {h0 : AH} {o : Nat} {p1 : Option Nat} {p2 : Option Nat} {hF : AH} (hR1 : 14 ≤ R.frames) (hR2 : 896 ≤ R.locals) (Hr : ∀ (pc : Nat) (L : List (Option Value)), decode mi_Ad_find.2.1 pc = .ok (.return_, 1) → AW l E mi_Ad_find R B Qf pc L [] hF) (hf : f_Ad_find h0 o p1 p2 = some hF) : AW l E mi_Ad_find R B Qf 0 [some (va_rf (some o)), some (va_rf p1), some (va_rf p2), none, none] [] h0 := by
  unfold f_Ad_find at hf
  refine ax_aload_n (i := 1) p1 dAd_find_0 rfl rfl ?_
  refine ax_aload_n (i := 0) (some o) dAd_find_1 rfl rfl ?_
  replace hf := bd1_s hf
  obtain ⟨r1, e_r1, hf⟩ := hf
  refine ax_getR fl_176 rfl dAd_find_2 e_r1 ?_
  replace hf := ite_s hf
  obtain ⟨e_r5, hf⟩ := hf
  replace hf := ite_s hf
  obtain ⟨e_q5, hf⟩ := hf
  replace hf := ite_c hf
  rcases hf with ⟨hc, hf⟩ | ⟨hc, hf⟩
  · refine ax_acmp_neF (r := p1) (q := r1) 17 dAd_find_5 (by decide) e_r5 e_q5 hc ?_
    refine ax_aload_n (i := 2) p2 dAd_find_8 rfl rfl ?_
    refine ax_aload_n (i := 0) (some o) dAd_find_9 rfl rfl ?_
    replace hf := bd1_s hf
    obtain ⟨r2, e_r2, hf⟩ := hf
    refine ax_getR fl_177 rfl dAd_find_10 e_r2 ?_
    replace hf := ite_s hf
    obtain ⟨e_r13, hf⟩ := hf
    replace hf := ite_s hf
    obtain ⟨e_q13, hf⟩ := hf
    replace hf := ite_c hf
    rcases hf with ⟨hc, hf⟩ | ⟨hc, hf⟩
    · refine ax_acmp_neF (r := p2) (q := r2) 17 dAd_find_13 (by decide) e_r13 e_q13 hc ?_
      cases hf
      exact Hr _ _ dAd_find_16
    · refine ax_acmp_neT (r := p2) (q := r2) 17 dAd_find_13 (by decide) e_r13 e_q13 hc ?_
      refine ax_aload_n (i := 0) (some o) dAd_find_17 rfl rfl ?_
      refine ax_aload_n (i := 1) p1 dAd_find_18 rfl rfl ?_
      replace hf := bd1_s hf
      obtain ⟨h3, e_h3, hf⟩ := hf
      refine ax_putR (v := p1) fw_176 rfl rfl dAd_find_19 e_h3 ?_
      refine ax_aload_n (i := 0) (some o) dAd_find_22 rfl rfl ?_
      refine ax_aload_n (i := 2) p2 dAd_find_23 rfl rfl ?_
      replace hf := bd1_s hf
      obtain ⟨h4, e_h4, hf⟩ := hf
      refine ax_putR (v := p2) fw_177 rfl rfl dAd_find_24 e_h4 ?_
      refine ax_aload_n (i := 0) (some o) dAd_find_27 rfl rfl ?_
      refine ax_iconst (0 : Int32) dAd_find_28 k32_0 ?_
      replace hf := bd1_s hf
      obtain ⟨h5, e_h5, hf⟩ := hf
      refine ax_putI fw_174 rfl rfl dAd_find_29 e_h5 ?_
      refine ax_aload_n (i := 0) (some o) dAd_find_32 rfl rfl ?_
      refine ax_iconst (0 : Int32) dAd_find_33 k32_0 ?_
      replace hf := bd1_s hf
      obtain ⟨h6, e_h6, hf⟩ := hf
      refine ax_putI fw_179 rfl rfl dAd_find_34 e_h6 ?_
      refine ax_aload_n (i := 0) (some o) dAd_find_37 rfl rfl ?_
      replace hf := bd1_s hf
      obtain ⟨r7, e_r7, hf⟩ := hf
      refine ax_getR fl_180 rfl dAd_find_38 e_r7 ?_
      refine ax_iconst (-1 : Int32) dAd_find_41 k32_m1 ?_
      replace hf := bd1_s hf
      obtain ⟨h8, e_h8, hf⟩ := hf
      refine ax_callS (As := [va_rf r7, .int (-1 : Int32)]) (rest := []) (c_jA_fill_I e_h8) ml_649 cm_jA_fill_I (Nat.le_trans (Nat.le_of_ble_eq_true rfl) hR1) (Nat.le_trans (Nat.le_of_ble_eq_true rfl) hR2) rfl rfl (Nat.le_of_ble_eq_true rfl) dAd_find_42 ?_
      refine ax_aload_n (i := 0) (some o) dAd_find_45 rfl rfl ?_
      replace hf := bd1_s hf
      obtain ⟨r9, e_r9, hf⟩ := hf
      refine ax_getR fl_181 rfl dAd_find_46 e_r9 ?_
      refine ax_iconst (-1 : Int32) dAd_find_49 k32_m1 ?_
      replace hf := bd1_s hf
      obtain ⟨h10, e_h10, hf⟩ := hf
      refine ax_callS (As := [va_rf r9, .int (-1 : Int32)]) (rest := []) (c_jA_fill_I e_h10) ml_649 cm_jA_fill_I (Nat.le_trans (Nat.le_of_ble_eq_true rfl) hR1) (Nat.le_trans (Nat.le_of_ble_eq_true rfl) hR2) rfl rfl (Nat.le_of_ble_eq_true rfl) dAd_find_50 ?_
      refine ax_aload_n (i := 0) (some o) dAd_find_53 rfl rfl ?_
      replace hf := bd1_s hf
      obtain ⟨r11, e_r11, hf⟩ := hf
      refine ax_getR fl_176 rfl dAd_find_54 e_r11 ?_
      replace hf := bd1_s hf
      obtain ⟨a12, e_d, hf⟩ := hf
      subst e_d
      replace hf := bd1_s hf
      obtain ⟨x13, e_x13, hf⟩ := hf
      obtain ⟨k_e_x13, e_x13⟩ := cv_s e_x13
      refine ax_callV (As := []) (rest := []) (c_Ta_messages e_x13) ml_650 cm_Ta_messages rfl k_e_x13 (Nat.le_trans (Nat.le_of_ble_eq_true rfl) hR1) (Nat.le_trans (Nat.le_of_ble_eq_true rfl) hR2) rfl rfl (Nat.le_of_ble_eq_true rfl) dAd_find_57 ?_
      refine ax_istore_n (i := 3) [some (va_rf (some o)), some (va_rf p1), some (va_rf p2), some (.int x13), none] dAd_find_60 rfl (Nat.le_of_ble_eq_true rfl) (Or.inr (c1r rfl)) rfl ?_
      refine ax_iconst (0 : Int32) dAd_find_61 k32_0 ?_
      refine ax_istore (i := 4) [some (va_rf (some o)), some (va_rf p1), some (va_rf p2), some (.int x13), some (.int (0 : Int32))] dAd_find_62 (Nat.le_of_ble_eq_true rfl) (Or.inr (c1i rfl)) rfl ?_
      refine ax_mask [true, false, false, true, true] rfl [some (va_rf (some o)), none, none, some (.int x13), some (.int (0 : Int32))] rfl ?_
      refine w_Ad_find_L64 hR1 hR2 (fun h22 hf => ?_) FU (0 : Int32) h10 hf
      refine ax_aload_n (i := 0) (some o) dAd_find_115 rfl rfl ?_
      refine ax_iconst (0 : Int32) dAd_find_116 k32_0 ?_
      replace hf := bd1_s hf
      obtain ⟨h23, e_h23, hf⟩ := hf
      obtain ⟨k_e_h23, e_h23⟩ := cv_s e_h23
      refine ax_callV (As := [.int (0 : Int32)]) (rest := []) (c_Ad_assign 8 e_h23) ml_652 cm_Ad_assign rfl k_e_h23 (Nat.le_trans (Nat.le_of_ble_eq_true rfl) hR1) (Nat.le_trans (Nat.le_of_ble_eq_true rfl) hR2) rfl rfl (Nat.le_of_ble_eq_true rfl) dAd_find_117 ?_
      cases hf
      exact Hr _ _ dAd_find_120
  · refine ax_acmp_neT (r := p1) (q := r1) 17 dAd_find_5 (by decide) e_r5 e_q5 hc ?_
    refine ax_aload_n (i := 0) (some o) dAd_find_17 rfl rfl ?_
    refine ax_aload_n (i := 1) p1 dAd_find_18 rfl rfl ?_
    replace hf := bd1_s hf
    obtain ⟨h24, e_h24, hf⟩ := hf
    refine ax_putR (v := p1) fw_176 rfl rfl dAd_find_19 e_h24 ?_
    refine ax_aload_n (i := 0) (some o) dAd_find_22 rfl rfl ?_
    refine ax_aload_n (i := 2) p2 dAd_find_23 rfl rfl ?_
    replace hf := bd1_s hf
    obtain ⟨h25, e_h25, hf⟩ := hf
    refine ax_putR (v := p2) fw_177 rfl rfl dAd_find_24 e_h25 ?_
    refine ax_aload_n (i := 0) (some o) dAd_find_27 rfl rfl ?_
    refine ax_iconst (0 : Int32) dAd_find_28 k32_0 ?_
    replace hf := bd1_s hf
    obtain ⟨h26, e_h26, hf⟩ := hf
    refine ax_putI fw_174 rfl rfl dAd_find_29 e_h26 ?_
    refine ax_aload_n (i := 0) (some o) dAd_find_32 rfl rfl ?_
    refine ax_iconst (0 : Int32) dAd_find_33 k32_0 ?_
    replace hf := bd1_s hf
    obtain ⟨h27, e_h27, hf⟩ := hf
    refine ax_putI fw_179 rfl rfl dAd_find_34 e_h27 ?_
    refine ax_aload_n (i := 0) (some o) dAd_find_37 rfl rfl ?_
    replace hf := bd1_s hf
    obtain ⟨r28, e_r28, hf⟩ := hf
    refine ax_getR fl_180 rfl dAd_find_38 e_r28 ?_
    refine ax_iconst (-1 : Int32) dAd_find_41 k32_m1 ?_
    replace hf := bd1_s hf
    obtain ⟨h29, e_h29, hf⟩ := hf
    refine ax_callS (As := [va_rf r28, .int (-1 : Int32)]) (rest := []) (c_jA_fill_I e_h29) ml_649 cm_jA_fill_I (Nat.le_trans (Nat.le_of_ble_eq_true rfl) hR1) (Nat.le_trans (Nat.le_of_ble_eq_true rfl) hR2) rfl rfl (Nat.le_of_ble_eq_true rfl) dAd_find_42 ?_
    refine ax_aload_n (i := 0) (some o) dAd_find_45 rfl rfl ?_
    replace hf := bd1_s hf
    obtain ⟨r30, e_r30, hf⟩ := hf
    refine ax_getR fl_181 rfl dAd_find_46 e_r30 ?_
    refine ax_iconst (-1 : Int32) dAd_find_49 k32_m1 ?_
    replace hf := bd1_s hf
    obtain ⟨h31, e_h31, hf⟩ := hf
    refine ax_callS (As := [va_rf r30, .int (-1 : Int32)]) (rest := []) (c_jA_fill_I e_h31) ml_649 cm_jA_fill_I (Nat.le_trans (Nat.le_of_ble_eq_true rfl) hR1) (Nat.le_trans (Nat.le_of_ble_eq_true rfl) hR2) rfl rfl (Nat.le_of_ble_eq_true rfl) dAd_find_50 ?_
    refine ax_aload_n (i := 0) (some o) dAd_find_53 rfl rfl ?_
    replace hf := bd1_s hf
    obtain ⟨r32, e_r32, hf⟩ := hf
    refine ax_getR fl_176 rfl dAd_find_54 e_r32 ?_
    replace hf := bd1_s hf
    obtain ⟨a33, e_d, hf⟩ := hf
    subst e_d
    replace hf := bd1_s hf
    obtain ⟨x34, e_x34, hf⟩ := hf
    obtain ⟨k_e_x34, e_x34⟩ := cv_s e_x34
    refine ax_callV (As := []) (rest := []) (c_Ta_messages e_x34) ml_650 cm_Ta_messages rfl k_e_x34 (Nat.le_trans (Nat.le_of_ble_eq_true rfl) hR1) (Nat.le_trans (Nat.le_of_ble_eq_true rfl) hR2) rfl rfl (Nat.le_of_ble_eq_true rfl) dAd_find_57 ?_
    refine ax_istore_n (i := 3) [some (va_rf (some o)), some (va_rf p1), some (va_rf p2), some (.int x34), none] dAd_find_60 rfl (Nat.le_of_ble_eq_true rfl) (Or.inr (c1r rfl)) rfl ?_
    refine ax_iconst (0 : Int32) dAd_find_61 k32_0 ?_
    refine ax_istore (i := 4) [some (va_rf (some o)), some (va_rf p1), some (va_rf p2), some (.int x34), some (.int (0 : Int32))] dAd_find_62 (Nat.le_of_ble_eq_true rfl) (Or.inr (c1i rfl)) rfl ?_
    refine ax_mask [true, false, false, true, true] rfl [some (va_rf (some o)), none, none, some (.int x34), some (.int (0 : Int32))] rfl ?_
    refine w_Ad_find_L64 hR1 hR2 (fun h35 hf => ?_) FU (0 : Int32) h31 hf
    refine ax_aload_n (i := 0) (some o) dAd_find_115 rfl rfl ?_
    refine ax_iconst (0 : Int32) dAd_find_116 k32_0 ?_
    replace hf := bd1_s hf
    obtain ⟨h36, e_h36, hf⟩ := hf
    obtain ⟨k_e_h36, e_h36⟩ := cv_s e_h36
    refine ax_callV (As := [.int (0 : Int32)]) (rest := []) (c_Ad_assign 8 e_h36) ml_652 cm_Ad_assign rfl k_e_h36 (Nat.le_trans (Nat.le_of_ble_eq_true rfl) hR1) (Nat.le_trans (Nat.le_of_ble_eq_true rfl) hR2) rfl rfl (Nat.le_of_ble_eq_true rfl) dAd_find_117 ?_
    cases hf
    exact Hr _ _ dAd_find_120
theorem c_Ad_find {l : Launch} {E : EN} {h0 : AH} {o : Nat} {p1 : Option Nat} {p2 : Option Nat} {hF : AH} (hf : f_Ad_find h0 o p1 p2 = some hF) : AM l E 14 mi_Ad_find [va_rf (some o), va_rf p1, va_rf p2] h0 none hF :=
  am_of2 [(va_rf (some o), false), (va_rf p1, false), (va_rf p2, false)] 2 ⟨cat_rf _, cat_rf _, cat_rf _, trivial⟩ rfl rfl (v_Ad_find (Nat.le_refl _) (Nat.le_refl _) (fun pc L hd => ax_vret rfl hd rfl) hf)
theorem v_C_adapt {l : Launch} {E : EN} {R : Room} {B : (Nat × Nat) × (Nat × Nat)} {Qf : QF} {h0 : AH} {o : Nat} {p1 : Int32} {p2 : Int32} {hF : AH} (hR1 : 15 ≤ R.frames) (hR2 : 960 ≤ R.locals) (Hr : ∀ (pc : Nat) (L : List (Option Value)), decode mi_C_adapt.2.1 pc = .ok (.return_, 1) → AW l E mi_C_adapt R B Qf pc L [] hF) (hf : f_C_adapt h0 o p1 p2 = some hF) : AW l E mi_C_adapt R B Qf 0 [some (va_rf (some o)), some (.int p1), some (.int p2)] [] h0 := by
  unfold f_C_adapt at hf
  refine ax_aload_n (i := 0) (some o) dC_adapt_0 rfl rfl ?_
  refine ax_dup dC_adapt_1 rfl ?_
  replace hf := bd1_s hf
  obtain ⟨x1, e_x1, hf⟩ := hf
  refine ax_getI fl_328 rfl dC_adapt_2 e_x1 ?_
  refine ax_iconst (1 : Int32) dC_adapt_5 k32_1 ?_
  refine ax_iadd dC_adapt_6 ?_
  replace hf := bd1_s hf
  obtain ⟨h2, e_h2, hf⟩ := hf
  refine ax_putI fw_328 rfl rfl dC_adapt_7 e_h2 ?_
  refine ax_aload_n (i := 0) (some o) dC_adapt_10 rfl rfl ?_
  replace hf := bd1_s hf
  obtain ⟨r3, e_r3, hf⟩ := hf
  refine ax_getR fl_326 rfl dC_adapt_11 e_r3 ?_
  refine ax_aload_n (i := 0) (some o) dC_adapt_14 rfl rfl ?_
  replace hf := bd1_s hf
  obtain ⟨r4, e_r4, hf⟩ := hf
  refine ax_getR fl_322 rfl dC_adapt_15 e_r4 ?_
  refine ax_iload_n (i := 1) dC_adapt_18 rfl rfl ?_
  replace hf := bd1_s hf
  obtain ⟨a5, e_d, hf⟩ := hf
  subst e_d
  replace hf := bd1_s hf
  obtain ⟨r6, e_r6, hf⟩ := hf
  refine ax_aald (c := 9) (by decide) rfl rfl dC_adapt_19 e_r6 ?_
  refine ax_aload_n (i := 0) (some o) dC_adapt_20 rfl rfl ?_
  replace hf := bd1_s hf
  obtain ⟨r7, e_r7, hf⟩ := hf
  refine ax_getR fl_322 rfl dC_adapt_21 e_r7 ?_
  refine ax_iload_n (i := 2) dC_adapt_24 rfl rfl ?_
  replace hf := bd1_s hf
  obtain ⟨a8, e_d, hf⟩ := hf
  subst e_d
  replace hf := bd1_s hf
  obtain ⟨r9, e_r9, hf⟩ := hf
  refine ax_aald (c := 9) (by decide) rfl rfl dC_adapt_25 e_r9 ?_
  replace hf := bd1_s hf
  obtain ⟨a10, e_d, hf⟩ := hf
  subst e_d
  replace hf := bd1_s hf
  obtain ⟨h11, e_h11, hf⟩ := hf
  obtain ⟨k_e_h11, e_h11⟩ := cv_s e_h11
  refine ax_callV (As := [va_rf r6, va_rf r9]) (rest := []) (c_Ad_find e_h11) ml_645 cm_Ad_find rfl k_e_h11 (Nat.le_trans (Nat.le_of_ble_eq_true rfl) hR1) (Nat.le_trans (Nat.le_of_ble_eq_true rfl) hR2) rfl rfl (Nat.le_of_ble_eq_true rfl) dC_adapt_26 ?_
  cases hf
  exact Hr _ _ dC_adapt_29
theorem c_C_adapt {l : Launch} {E : EN} {h0 : AH} {o : Nat} {p1 : Int32} {p2 : Int32} {hF : AH} (hf : f_C_adapt h0 o p1 p2 = some hF) : AM l E 15 mi_C_adapt [va_rf (some o), .int p1, .int p2] h0 none hF :=
  am_of2 [(va_rf (some o), false), (.int p1, false), (.int p2, false)] 0 ⟨cat_rf _, rfl, rfl, trivial⟩ rfl rfl (v_C_adapt (Nat.le_refl _) (Nat.le_refl _) (fun pc L hd => ax_vret rfl hd rfl) hf)
theorem v_C_adapters {l : Launch} {E : EN} {R : Room} {B : (Nat × Nat) × (Nat × Nat)} {Qf : QF} {h0 : AH} {o : Nat} {p1 : Int32} {p2 : Int32} {r : Int32} {hF : AH} (hR1 : 16 ≤ R.frames) (hR2 : 1024 ≤ R.locals) (Hr : ∀ (pc : Nat) (L : List (Option Value)), decode mi_C_adapters.2.1 pc = .ok (.ireturn, 1) → AW l E mi_C_adapters R B Qf pc L [.int r] hF) (hf : f_C_adapters h0 o p1 p2 = some (r, hF)) : AW l E mi_C_adapters R B Qf 0 [some (va_rf (some o)), some (.int p1), some (.int p2), none] [] h0 := by
  unfold f_C_adapters at hf
  refine ax_aload_n (i := 0) (some o) dC_adapters_0 rfl rfl ?_
  refine ax_iload_n (i := 1) dC_adapters_1 rfl rfl ?_
  refine ax_iload_n (i := 2) dC_adapters_2 rfl rfl ?_
  refine ax_iconst (0 : Int32) dC_adapters_3 k32_0 ?_
  replace hf := bd1_s hf
  obtain ⟨x1, e_x1, hf⟩ := hf
  obtain ⟨k_e_x1, e_x1⟩ := cv_s e_x1
  refine ax_callV (As := [.int p1, .int p2, .int (0 : Int32)]) (rest := []) (c_C_adaptingRefusal e_x1) ml_626 cm_C_adaptingRefusal rfl k_e_x1 (Nat.le_trans (Nat.le_of_ble_eq_true rfl) hR1) (Nat.le_trans (Nat.le_of_ble_eq_true rfl) hR2) rfl rfl (Nat.le_of_ble_eq_true rfl) dC_adapters_4 ?_
  refine ax_istore_n (i := 3) [some (va_rf (some o)), some (.int p1), some (.int p2), some (.int x1)] dC_adapters_7 rfl (Nat.le_of_ble_eq_true rfl) (Or.inr (c1i rfl)) rfl ?_
  refine ax_iload_n (i := 3) dC_adapters_8 rfl rfl ?_
  replace hf := ite_c hf
  rcases hf with ⟨hc, hf⟩ | ⟨hc, hf⟩
  · refine ax_if_eqT 14 dC_adapters_9 (by decide) hc ?_
    refine ax_aload_n (i := 0) (some o) dC_adapters_14 rfl rfl ?_
    refine ax_iload_n (i := 1) dC_adapters_15 rfl rfl ?_
    refine ax_iload_n (i := 2) dC_adapters_16 rfl rfl ?_
    replace hf := bd1_s hf
    obtain ⟨h2, e_h2, hf⟩ := hf
    obtain ⟨k_e_h2, e_h2⟩ := cv_s e_h2
    refine ax_callV (As := [.int p1, .int p2]) (rest := []) (c_C_adapt e_h2) ml_641 cm_C_adapt rfl k_e_h2 (Nat.le_trans (Nat.le_of_ble_eq_true rfl) hR1) (Nat.le_trans (Nat.le_of_ble_eq_true rfl) hR2) rfl rfl (Nat.le_of_ble_eq_true rfl) dC_adapters_17 ?_
    refine ax_aload_n (i := 0) (some o) dC_adapters_20 rfl rfl ?_
    replace hf := bd1_s hf
    obtain ⟨r3, e_r3, hf⟩ := hf
    refine ax_getR fl_326 rfl dC_adapters_21 e_r3 ?_
    replace hf := bd1_s hf
    obtain ⟨a4, e_d, hf⟩ := hf
    subst e_d
    replace hf := bd1_s hf
    obtain ⟨x5, e_x5, hf⟩ := hf
    refine ax_getI fl_175 rfl dC_adapters_24 e_x5 ?_
    cases hf
    exact Hr _ _ dC_adapters_27
  · refine ax_if_eqF 14 dC_adapters_9 (by decide) hc ?_
    refine ax_iload_n (i := 3) dC_adapters_12 rfl rfl ?_
    cases hf
    exact Hr _ _ dC_adapters_13
theorem c_C_adapters {l : Launch} {E : EN} {h0 : AH} {o : Nat} {p1 : Int32} {p2 : Int32} {r : Int32} {hF : AH} (hf : f_C_adapters h0 o p1 p2 = some (r, hF)) : AM l E 16 mi_C_adapters [va_rf (some o), .int p1, .int p2] h0 (some (.int r)) hF :=
  am_of2 [(va_rf (some o), false), (.int p1, false), (.int p2, false)] 1 ⟨cat_rf _, rfl, rfl, trivial⟩ rfl rfl (v_C_adapters (Nat.le_refl _) (Nat.le_refl _) (fun pc L hd => ax_iret rfl hd rfl) hf)
theorem w_Ad_becomes_L16 {l : Launch} {E : EN} {R : Room} {B : (Nat × Nat) × (Nat × Nat)} {Qf : QF} {h0 : AH} {r : Int32} (hR1 : 1 ≤ R.frames) (hR2 : 64 ≤ R.locals) (Hr : ∀ (pc : Nat) (L : List (Option Value)), decode mi_Ad_becomes.2.1 pc = .ok (.ireturn, 1) → AW l E mi_Ad_becomes R B Qf pc L [.int r] h0) {y0 : Nat} {y1 : Int32} {y2 : Int32} {k : Int32 → Option (Int32)} (hk : ∀ (z3 : Int32), k z3 = some r → AW l E mi_Ad_becomes R B Qf 34 [some (va_rf (some y0)), some (.int y1), none, some (.int z3)] [] h0) : ∀ (n : Nat) (z3 : Int32), f_Ad_becomes_L16 h0 y0 y1 y2 k n z3 = some r → AW l E mi_Ad_becomes R B Qf 16 [some (va_rf (some y0)), some (.int y1), some (.int y2), some (.int z3)] [] h0 := by
  intro n
  induction n with
  | zero => intro z3 hf; cases hf
  | succ n ih =>
    intro z3 hf
    rw [f_Ad_becomes_L16] at hf
    refine ax_iload_n (i := 3) dAd_becomes_16 rfl rfl ?_
    refine ax_aload_n (i := 0) (some y0) dAd_becomes_17 rfl rfl ?_
    replace hf := bd1_s hf
    obtain ⟨x2, e_x2, hf⟩ := hf
    refine ax_getI fl_179 rfl dAd_becomes_18 e_x2 ?_
    replace hf := ite_c hf
    rcases hf with ⟨hc, hf⟩ | ⟨hc, hf⟩
    · refine ax_icmp_geF 54 dAd_becomes_21 (by decide) hc ?_
      refine ax_aload_n (i := 0) (some y0) dAd_becomes_24 rfl rfl ?_
      replace hf := bd1_s hf
      obtain ⟨r3, e_r3, hf⟩ := hf
      refine ax_getR fl_178 rfl dAd_becomes_25 e_r3 ?_
      refine ax_iload_n (i := 3) dAd_becomes_28 rfl rfl ?_
      replace hf := bd1_s hf
      obtain ⟨a4, e_d, hf⟩ := hf
      subst e_d
      replace hf := bd1_s hf
      obtain ⟨x5, e_x5, hf⟩ := hf
      refine ax_iald dAd_becomes_29 e_x5 ?_
      refine ax_iload_n (i := 2) dAd_becomes_30 rfl rfl ?_
      replace hf := ite_c hf
      rcases hf with ⟨hc, hf⟩ | ⟨hc, hf⟩
      · refine ax_icmp_neF 48 dAd_becomes_31 (by decide) hc ?_
        refine ax_mask [true, true, false, true] rfl [some (va_rf (some y0)), some (.int y1), none, some (.int z3)] rfl ?_
        exact hk z3 hf
      · refine ax_icmp_neT 48 dAd_becomes_31 (by decide) hc ?_
        refine ax_iinc (i := 3) (z3 + (1 : Int32)) [some (va_rf (some y0)), some (.int y1), some (.int y2), some (.int (z3 + (1 : Int32)))] dAd_becomes_48 rfl (iic k32_1) (Or.inr (c1i rfl)) rfl ?_
        refine ax_goto 16 dAd_becomes_51 (by decide) ?_
        exact ih (z3 + (1 : Int32)) hf
    · refine ax_icmp_geT 54 dAd_becomes_21 (by decide) hc ?_
      refine ax_iconst (-1 : Int32) dAd_becomes_54 k32_m1 ?_
      cases hf
      exact Hr _ _ dAd_becomes_55
theorem v_Ad_becomes {l : Launch} {E : EN} {R : Room} {B : (Nat × Nat) × (Nat × Nat)} {Qf : QF} {h0 : AH} {o : Nat} {p1 : Int32} {p2 : Int32} {r : Int32} (hR1 : 1 ≤ R.frames) (hR2 : 64 ≤ R.locals) (Hr : ∀ (pc : Nat) (L : List (Option Value)), decode mi_Ad_becomes.2.1 pc = .ok (.ireturn, 1) → AW l E mi_Ad_becomes R B Qf pc L [.int r] h0) (hf : f_Ad_becomes h0 o p1 p2 = some r) : AW l E mi_Ad_becomes R B Qf 0 [some (va_rf (some o)), some (.int p1), some (.int p2), none] [] h0 := by
  unfold f_Ad_becomes at hf
  refine ax_iload_n (i := 1) dAd_becomes_0 rfl rfl ?_
  replace hf := ite_c hf
  rcases hf with ⟨hc, hf⟩ | ⟨hc, hf⟩
  · refine ax_if_ltT 12 dAd_becomes_1 (by decide) hc ?_
    refine ax_iconst (-1 : Int32) dAd_becomes_12 k32_m1 ?_
    cases hf
    exact Hr _ _ dAd_becomes_13
  · refine ax_if_ltF 12 dAd_becomes_1 (by decide) hc ?_
    refine ax_iload_n (i := 1) dAd_becomes_4 rfl rfl ?_
    refine ax_aload_n (i := 0) (some o) dAd_becomes_5 rfl rfl ?_
    replace hf := bd1_s hf
    obtain ⟨x1, e_x1, hf⟩ := hf
    refine ax_getI fl_174 rfl dAd_becomes_6 e_x1 ?_
    replace hf := ite_c hf
    rcases hf with ⟨hc, hf⟩ | ⟨hc, hf⟩
    · refine ax_icmp_ltT 14 dAd_becomes_9 (by decide) hc ?_
      refine ax_iconst (0 : Int32) dAd_becomes_14 k32_0 ?_
      refine ax_istore_n (i := 3) [some (va_rf (some o)), some (.int p1), some (.int p2), some (.int (0 : Int32))] dAd_becomes_15 rfl (Nat.le_of_ble_eq_true rfl) (Or.inr (c1i rfl)) rfl ?_
      refine w_Ad_becomes_L16 hR1 hR2 Hr (fun x6 hf => ?_) FU (0 : Int32) hf
      refine ax_aload_n (i := 0) (some o) dAd_becomes_34 rfl rfl ?_
      replace hf := bd1_s hf
      obtain ⟨r7, e_r7, hf⟩ := hf
      refine ax_getR fl_173 rfl dAd_becomes_35 e_r7 ?_
      refine ax_iload_n (i := 1) dAd_becomes_38 rfl rfl ?_
      replace hf := bd1_s hf
      obtain ⟨a8, e_d, hf⟩ := hf
      subst e_d
      replace hf := bd1_s hf
      obtain ⟨x9, e_x9, hf⟩ := hf
      refine ax_iald dAd_becomes_39 e_x9 ?_
      refine ax_iconst (4 : Int32) dAd_becomes_40 k32_4 ?_
      refine ax_iload_n (i := 3) dAd_becomes_41 rfl rfl ?_
      refine ax_imul dAd_becomes_42 ?_
      refine ax_ishr dAd_becomes_43 ?_
      refine ax_bipush (15 : Int32) dAd_becomes_44 k8_15 ?_
      refine ax_iand dAd_becomes_46 ?_
      cases hf
      exact Hr _ _ dAd_becomes_47
    · refine ax_icmp_ltF 14 dAd_becomes_9 (by decide) hc ?_
      refine ax_iconst (-1 : Int32) dAd_becomes_12 k32_m1 ?_
      cases hf
      exact Hr _ _ dAd_becomes_13
theorem c_Ad_becomes {l : Launch} {E : EN} {h0 : AH} {o : Nat} {p1 : Int32} {p2 : Int32} {r : Int32} (hf : f_Ad_becomes h0 o p1 p2 = some r) : AM l E 1 mi_Ad_becomes [va_rf (some o), .int p1, .int p2] h0 (some (.int r)) h0 :=
  am_of2 [(va_rf (some o), false), (.int p1, false), (.int p2, false)] 1 ⟨cat_rf _, rfl, rfl, trivial⟩ rfl rfl (v_Ad_becomes (Nat.le_refl _) (Nat.le_refl _) (fun pc L hd => ax_iret rfl hd rfl) hf)
theorem v_C_adapter {l : Launch} {E : EN} {R : Room} {B : (Nat × Nat) × (Nat × Nat)} {Qf : QF} {h0 : AH} {o : Nat} {p1 : Int32} {p2 : Int32} {p3 : Int32} {p4 : Int32} {r : Int32} {hF : AH} (hR1 : 16 ≤ R.frames) (hR2 : 1024 ≤ R.locals) (Hr : ∀ (pc : Nat) (L : List (Option Value)), decode mi_C_adapter.2.1 pc = .ok (.ireturn, 1) → AW l E mi_C_adapter R B Qf pc L [.int r] hF) (hf : f_C_adapter h0 o p1 p2 p3 p4 = some (r, hF)) : AW l E mi_C_adapter R B Qf 0 [some (va_rf (some o)), some (.int p1), some (.int p2), some (.int p3), some (.int p4), none] [] h0 := by
  unfold f_C_adapter at hf
  refine ax_aload_n (i := 0) (some o) dC_adapter_0 rfl rfl ?_
  refine ax_iload_n (i := 1) dC_adapter_1 rfl rfl ?_
  refine ax_iload_n (i := 2) dC_adapter_2 rfl rfl ?_
  refine ax_iload (i := 4) dC_adapter_3 rfl ?_
  replace hf := bd1_s hf
  obtain ⟨x1, e_x1, hf⟩ := hf
  obtain ⟨k_e_x1, e_x1⟩ := cv_s e_x1
  refine ax_callV (As := [.int p1, .int p2, .int p4]) (rest := []) (c_C_adaptingRefusal e_x1) ml_626 cm_C_adaptingRefusal rfl k_e_x1 (Nat.le_trans (Nat.le_of_ble_eq_true rfl) hR1) (Nat.le_trans (Nat.le_of_ble_eq_true rfl) hR2) rfl rfl (Nat.le_of_ble_eq_true rfl) dC_adapter_5 ?_
  refine ax_istore (i := 5) [some (va_rf (some o)), some (.int p1), some (.int p2), some (.int p3), some (.int p4), some (.int x1)] dC_adapter_8 (Nat.le_of_ble_eq_true rfl) (Or.inr (c1i rfl)) rfl ?_
  refine ax_iload (i := 5) dC_adapter_10 rfl ?_
  replace hf := ite_c hf
  rcases hf with ⟨hc, hf⟩ | ⟨hc, hf⟩
  · refine ax_if_eqT 18 dC_adapter_12 (by decide) hc ?_
    refine ax_aload_n (i := 0) (some o) dC_adapter_18 rfl rfl ?_
    refine ax_iload_n (i := 1) dC_adapter_19 rfl rfl ?_
    refine ax_iload_n (i := 2) dC_adapter_20 rfl rfl ?_
    replace hf := bd1_s hf
    obtain ⟨h2, e_h2, hf⟩ := hf
    obtain ⟨k_e_h2, e_h2⟩ := cv_s e_h2
    refine ax_callV (As := [.int p1, .int p2]) (rest := []) (c_C_adapt e_h2) ml_641 cm_C_adapt rfl k_e_h2 (Nat.le_trans (Nat.le_of_ble_eq_true rfl) hR1) (Nat.le_trans (Nat.le_of_ble_eq_true rfl) hR2) rfl rfl (Nat.le_of_ble_eq_true rfl) dC_adapter_21 ?_
    refine ax_aload_n (i := 0) (some o) dC_adapter_24 rfl rfl ?_
    replace hf := bd1_s hf
    obtain ⟨r3, e_r3, hf⟩ := hf
    refine ax_getR fl_326 rfl dC_adapter_25 e_r3 ?_
    refine ax_iload_n (i := 3) dC_adapter_28 rfl rfl ?_
    refine ax_iload (i := 4) dC_adapter_29 rfl ?_
    replace hf := bd1_s hf
    obtain ⟨a4, e_d, hf⟩ := hf
    subst e_d
    replace hf := bd1_s hf
    obtain ⟨x5, e_x5, hf⟩ := hf
    obtain ⟨k_e_x5, e_x5⟩ := cv_s e_x5
    refine ax_callV (As := [.int p3, .int p4]) (rest := []) (c_Ad_becomes e_x5) ml_683 cm_Ad_becomes rfl k_e_x5 (Nat.le_trans (Nat.le_of_ble_eq_true rfl) hR1) (Nat.le_trans (Nat.le_of_ble_eq_true rfl) hR2) rfl rfl (Nat.le_of_ble_eq_true rfl) dC_adapter_31 ?_
    cases hf
    exact Hr _ _ dC_adapter_34
  · refine ax_if_eqF 18 dC_adapter_12 (by decide) hc ?_
    refine ax_iload (i := 5) dC_adapter_15 rfl ?_
    cases hf
    exact Hr _ _ dC_adapter_17
theorem c_C_adapter {l : Launch} {E : EN} {h0 : AH} {o : Nat} {p1 : Int32} {p2 : Int32} {p3 : Int32} {p4 : Int32} {r : Int32} {hF : AH} (hf : f_C_adapter h0 o p1 p2 p3 p4 = some (r, hF)) : AM l E 16 mi_C_adapter [va_rf (some o), .int p1, .int p2, .int p3, .int p4] h0 (some (.int r)) hF :=
  am_of2 [(va_rf (some o), false), (.int p1, false), (.int p2, false), (.int p3, false), (.int p4, false)] 1 ⟨cat_rf _, rfl, rfl, rfl, rfl, trivial⟩ rfl rfl (v_C_adapter (Nat.le_refl _) (Nat.le_refl _) (fun pc L hd => ax_iret rfl hd rfl) hf)
theorem v_C_isFacts {l : Launch} {E : EN} {R : Room} {B : (Nat × Nat) × (Nat × Nat)} {Qf : QF} {h0 : AH} {p1 : Int32} {r : Int32} (hR1 : 1 ≤ R.frames) (hR2 : 64 ≤ R.locals) (Hr : (r = 0 ∨ r = 1) → ∀ (pc : Nat) (L : List (Option Value)), decode mi_C_isFacts.2.1 pc = .ok (.ireturn, 1) → AW l E mi_C_isFacts R B Qf pc L [.int r] h0) (hf : f_C_isFacts h0 p1 = some r) : AW l E mi_C_isFacts R B Qf 0 [some (.int p1)] [] h0 := by
  unfold f_C_isFacts at hf
  refine ax_iload_n (i := 0) dC_isFacts_0 rfl rfl ?_
  replace hf := ite_c hf
  rcases hf with ⟨hc, hf⟩ | ⟨hc, hf⟩
  · refine ax_if_ltT 15 dC_isFacts_1 (by decide) hc ?_
    refine ax_iconst (0 : Int32) dC_isFacts_15 k32_0 ?_
    cases hf
    exact Hr (Or.inl rfl) _ _ dC_isFacts_16
  · refine ax_if_ltF 15 dC_isFacts_1 (by decide) hc ?_
    refine ax_iload_n (i := 0) dC_isFacts_4 rfl rfl ?_
    refine ax_sipush (4095 : Int32) dC_isFacts_5 k16_4095 ?_
    replace hf := ite_c hf
    rcases hf with ⟨hc, hf⟩ | ⟨hc, hf⟩
    · refine ax_icmp_gtT 15 dC_isFacts_8 (by decide) hc ?_
      refine ax_iconst (0 : Int32) dC_isFacts_15 k32_0 ?_
      cases hf
      exact Hr (Or.inl rfl) _ _ dC_isFacts_16
    · refine ax_icmp_gtF 15 dC_isFacts_8 (by decide) hc ?_
      refine ax_iconst (1 : Int32) dC_isFacts_11 k32_1 ?_
      refine ax_goto 16 dC_isFacts_12 (by decide) ?_
      cases hf
      exact Hr (Or.inr rfl) _ _ dC_isFacts_16
theorem c_C_isFacts {l : Launch} {E : EN} {h0 : AH} {p1 : Int32} {r : Int32} (hf : f_C_isFacts h0 p1 = some r) : AM l E 1 mi_C_isFacts [.int p1] h0 (some (.int r)) h0 :=
  am_of2 [(.int p1, false)] 0 ⟨rfl, trivial⟩ rfl rfl (v_C_isFacts (Nat.le_refl _) (Nat.le_refl _) (fun hz pc L hd => ax_zret rfl hz hd rfl) hf)
theorem v_He_init {l : Launch} {E : EN} {R : Room} {B : (Nat × Nat) × (Nat × Nat)} {Qf : QF} {h0 : AH} {o : Nat} {p1 : Int32} {p2 : Int32} {p3 : Int32} {hF : AH} (hR1 : 1 ≤ R.frames) (hR2 : 64 ≤ R.locals) (Hr : ∀ (pc : Nat) (L : List (Option Value)), decode mi_He_init.2.1 pc = .ok (.return_, 1) → AW l E mi_He_init R B Qf pc L [] hF) (hf : f_He_init h0 o p1 p2 p3 = some hF) : AW l E mi_He_init R B Qf 0 [some (va_rf (some o)), some (.int p1), some (.int p2), some (.int p3)] [] h0 := by
  unfold f_He_init at hf
  refine ax_aload_n (i := 0) (some o) dHe_init_0 rfl rfl ?_
  refine ax_objInit w_699 w_obi w_obc (Nat.le_trans (Nat.le_of_ble_eq_true rfl) hR1) (Nat.le_trans (Nat.le_of_ble_eq_true rfl) hR2) (Nat.le_of_ble_eq_true rfl) dHe_init_1 ?_
  refine ax_aload_n (i := 0) (some o) dHe_init_4 rfl rfl ?_
  refine ax_bipush (8 : Int32) dHe_init_5 k8_8 ?_
  replace hf := bd1_s hf
  obtain ⟨h1, e_h1, hf⟩ := hf
  refine ax_newa (d := 1) (Or.inl rfl) rfl w_ac1 dHe_init_7 e_h1 ?_
  replace hf := bd1_s hf
  obtain ⟨h2, e_h2, hf⟩ := hf
  refine ax_putR (v := (some (hM h0))) fw_702 rfl rfl dHe_init_9 e_h2 ?_
  refine ax_aload_n (i := 0) (some o) dHe_init_12 rfl rfl ?_
  replace hf := bd1_s hf
  obtain ⟨r3, e_r3, hf⟩ := hf
  refine ax_getR fl_702 rfl dHe_init_13 e_r3 ?_
  refine ax_iconst (2 : Int32) dHe_init_16 k32_2 ?_
  refine ax_gets (j := 1) rfl (Or.inr ⟨_, w_700⟩) dHe_init_17 ?_
  refine ax_iconst (2 : Int32) dHe_init_20 k32_2 ?_
  replace hf := bd1_s hf
  obtain ⟨x4, e_x4, hf⟩ := hf
  refine ax_iald dHe_init_21 e_x4 ?_
  replace hf := bd1_s hf
  obtain ⟨a5, e_d, hf⟩ := hf
  subst e_d
  replace hf := bd1_s hf
  obtain ⟨h6, e_h6, hf⟩ := hf
  refine ax_iast dHe_init_22 e_h6 ?_
  refine ax_aload_n (i := 0) (some o) dHe_init_23 rfl rfl ?_
  replace hf := bd1_s hf
  obtain ⟨r7, e_r7, hf⟩ := hf
  refine ax_getR fl_702 rfl dHe_init_24 e_r7 ?_
  refine ax_iconst (3 : Int32) dHe_init_27 k32_3 ?_
  refine ax_gets (j := 1) rfl (Or.inr ⟨_, w_700⟩) dHe_init_28 ?_
  refine ax_iconst (3 : Int32) dHe_init_31 k32_3 ?_
  replace hf := bd1_s hf
  obtain ⟨x8, e_x8, hf⟩ := hf
  refine ax_iald dHe_init_32 e_x8 ?_
  replace hf := bd1_s hf
  obtain ⟨a9, e_d, hf⟩ := hf
  subst e_d
  replace hf := bd1_s hf
  obtain ⟨h10, e_h10, hf⟩ := hf
  refine ax_iast dHe_init_33 e_h10 ?_
  refine ax_aload_n (i := 0) (some o) dHe_init_34 rfl rfl ?_
  replace hf := bd1_s hf
  obtain ⟨r11, e_r11, hf⟩ := hf
  refine ax_getR fl_702 rfl dHe_init_35 e_r11 ?_
  refine ax_iconst (4 : Int32) dHe_init_38 k32_4 ?_
  refine ax_iconst (-1 : Int32) dHe_init_39 k32_m1 ?_
  replace hf := bd1_s hf
  obtain ⟨a12, e_d, hf⟩ := hf
  subst e_d
  replace hf := bd1_s hf
  obtain ⟨h13, e_h13, hf⟩ := hf
  refine ax_iast dHe_init_40 e_h13 ?_
  refine ax_aload_n (i := 0) (some o) dHe_init_41 rfl rfl ?_
  replace hf := bd1_s hf
  obtain ⟨r14, e_r14, hf⟩ := hf
  refine ax_getR fl_702 rfl dHe_init_42 e_r14 ?_
  refine ax_iconst (5 : Int32) dHe_init_45 k32_5 ?_
  refine ax_iload_n (i := 1) dHe_init_46 rfl rfl ?_
  replace hf := bd1_s hf
  obtain ⟨a15, e_d, hf⟩ := hf
  subst e_d
  replace hf := bd1_s hf
  obtain ⟨h16, e_h16, hf⟩ := hf
  refine ax_iast dHe_init_47 e_h16 ?_
  refine ax_aload_n (i := 0) (some o) dHe_init_48 rfl rfl ?_
  replace hf := bd1_s hf
  obtain ⟨r17, e_r17, hf⟩ := hf
  refine ax_getR fl_702 rfl dHe_init_49 e_r17 ?_
  refine ax_bipush (6 : Int32) dHe_init_52 k8_6 ?_
  refine ax_iload_n (i := 2) dHe_init_54 rfl rfl ?_
  replace hf := bd1_s hf
  obtain ⟨a18, e_d, hf⟩ := hf
  subst e_d
  replace hf := bd1_s hf
  obtain ⟨h19, e_h19, hf⟩ := hf
  refine ax_iast dHe_init_55 e_h19 ?_
  refine ax_aload_n (i := 0) (some o) dHe_init_56 rfl rfl ?_
  replace hf := bd1_s hf
  obtain ⟨r20, e_r20, hf⟩ := hf
  refine ax_getR fl_702 rfl dHe_init_57 e_r20 ?_
  refine ax_bipush (7 : Int32) dHe_init_60 k8_7 ?_
  refine ax_iload_n (i := 3) dHe_init_62 rfl rfl ?_
  replace hf := bd1_s hf
  obtain ⟨a21, e_d, hf⟩ := hf
  subst e_d
  replace hf := bd1_s hf
  obtain ⟨h22, e_h22, hf⟩ := hf
  refine ax_iast dHe_init_63 e_h22 ?_
  cases hf
  exact Hr _ _ dHe_init_64
theorem c_He_init {l : Launch} {E : EN} {h0 : AH} {o : Nat} {p1 : Int32} {p2 : Int32} {p3 : Int32} {hF : AH} (hf : f_He_init h0 o p1 p2 p3 = some hF) : AM l E 1 mi_He_init [va_rf (some o), .int p1, .int p2, .int p3] h0 none hF :=
  am_of2 [(va_rf (some o), false), (.int p1, false), (.int p2, false), (.int p3, false)] 0 ⟨cat_rf _, rfl, rfl, rfl, trivial⟩ rfl rfl (v_He_init (Nat.le_refl _) (Nat.le_refl _) (fun pc L hd => ax_vret rfl hd rfl) hf)
theorem v_Ro_addHelper {l : Launch} {E : EN} {R : Room} {B : (Nat × Nat) × (Nat × Nat)} {Qf : QF} {h0 : AH} {o : Nat} {p1 : Option Nat} {r : Int32} {hF : AH} (hR1 : 1 ≤ R.frames) (hR2 : 64 ≤ R.locals) (Hr : ∀ (pc : Nat) (L : List (Option Value)), decode mi_Ro_addHelper.2.1 pc = .ok (.ireturn, 1) → AW l E mi_Ro_addHelper R B Qf pc L [.int r] hF) (hf : f_Ro_addHelper h0 o p1 = some (r, hF)) : AW l E mi_Ro_addHelper R B Qf 0 [some (va_rf (some o)), some (va_rf p1)] [] h0 := by
  unfold f_Ro_addHelper at hf
  refine ax_aload_n (i := 0) (some o) dRo_addHelper_0 rfl rfl ?_
  replace hf := bd1_s hf
  obtain ⟨x1, e_x1, hf⟩ := hf
  refine ax_getI fl_238 rfl dRo_addHelper_1 e_x1 ?_
  refine ax_bipush (8 : Int32) dRo_addHelper_4 k8_8 ?_
  replace hf := bd1_s hf
  obtain ⟨h9, hT, hf⟩ := hf
  have K : AW l E mi_Ro_addHelper R B Qf 29 [some (va_rf (some o)), none] [] h9 := by
    clear hT
    refine ax_aload_n (i := 0) (some o) dRo_addHelper_29 rfl rfl ?_
    replace hf := bd1_s hf
    obtain ⟨x10, e_x10, hf⟩ := hf
    refine ax_getI fl_238 rfl dRo_addHelper_30 e_x10 ?_
    refine ax_iconst (1 : Int32) dRo_addHelper_33 k32_1 ?_
    refine ax_isub dRo_addHelper_34 ?_
    cases hf
    exact Hr _ _ dRo_addHelper_35
  replace hf := hT
  clear hT
  replace hf := ite_c hf
  rcases hf with ⟨hc, hf⟩ | ⟨hc, hf⟩
  · refine ax_icmp_geF 29 dRo_addHelper_6 (by decide) hc ?_
    refine ax_aload_n (i := 0) (some o) dRo_addHelper_9 rfl rfl ?_
    replace hf := bd1_s hf
    obtain ⟨r2, e_r2, hf⟩ := hf
    refine ax_getR fl_236 rfl dRo_addHelper_10 e_r2 ?_
    refine ax_aload_n (i := 0) (some o) dRo_addHelper_13 rfl rfl ?_
    replace hf := bd1_s hf
    obtain ⟨x3, e_x3, hf⟩ := hf
    refine ax_getI fl_238 rfl dRo_addHelper_14 e_x3 ?_
    refine ax_aload_n (i := 1) p1 dRo_addHelper_17 rfl rfl ?_
    replace hf := bd1_s hf
    obtain ⟨a4, e_d, hf⟩ := hf
    subst e_d
    replace hf := bd1_s hf
    obtain ⟨a6, e_d, hf⟩ := hf
    subst e_d
    replace hf := bd1_s hf
    obtain ⟨h5, e_h5, hf⟩ := hf
    refine ax_aast (c := 4) (by decide) rfl rfl rfl dRo_addHelper_18 e_h5 ?_
    refine ax_aload_n (i := 0) (some o) dRo_addHelper_19 rfl rfl ?_
    refine ax_dup dRo_addHelper_20 rfl ?_
    replace hf := bd1_s hf
    obtain ⟨x7, e_x7, hf⟩ := hf
    refine ax_getI fl_238 rfl dRo_addHelper_21 e_x7 ?_
    refine ax_iconst (1 : Int32) dRo_addHelper_24 k32_1 ?_
    refine ax_iadd dRo_addHelper_25 ?_
    replace hf := bd1_s hf
    obtain ⟨h8, e_h8, hf⟩ := hf
    refine ax_putI fw_238 rfl rfl dRo_addHelper_26 e_h8 ?_
    refine ax_mask [true, false] rfl [some (va_rf (some o)), none] rfl ?_
    cases hf
    exact K
  · refine ax_icmp_geT 29 dRo_addHelper_6 (by decide) hc ?_
    refine ax_mask [true, false] rfl [some (va_rf (some o)), none] rfl ?_
    cases hf
    exact K
theorem c_Ro_addHelper {l : Launch} {E : EN} {h0 : AH} {o : Nat} {p1 : Option Nat} {r : Int32} {hF : AH} (hf : f_Ro_addHelper h0 o p1 = some (r, hF)) : AM l E 1 mi_Ro_addHelper [va_rf (some o), va_rf p1] h0 (some (.int r)) hF :=
  am_of2 [(va_rf (some o), false), (va_rf p1, false)] 0 ⟨cat_rf _, cat_rf _, trivial⟩ rfl rfl (v_Ro_addHelper (Nat.le_refl _) (Nat.le_refl _) (fun pc L hd => ax_iret rfl hd rfl) hf)
theorem v_C_helper {l : Launch} {E : EN} {R : Room} {B : (Nat × Nat) × (Nat × Nat)} {Qf : QF} {h0 : AH} {o : Nat} {p1 : Int32} {p2 : Int32} {p3 : Int32} {r : Int32} {hF : AH} (hR1 : 2 ≤ R.frames) (hR2 : 128 ≤ R.locals) (Hr : ∀ (pc : Nat) (L : List (Option Value)), decode mi_C_helper.2.1 pc = .ok (.ireturn, 1) → AW l E mi_C_helper R B Qf pc L [.int r] hF) (hf : f_C_helper h0 o p1 p2 p3 = some (r, hF)) : AW l E mi_C_helper R B Qf 0 [some (va_rf (some o)), some (.int p1), some (.int p2), some (.int p3)] [] h0 := by
  unfold f_C_helper at hf
  refine ax_iload_n (i := 1) dC_helper_0 rfl rfl ?_
  replace hf := bd1_s hf
  obtain ⟨x1, e_x1, hf⟩ := hf
  refine ax_callS (As := [.int p1]) (rest := []) (c_C_isFacts e_x1) ml_691 cm_C_isFacts (Nat.le_trans (Nat.le_of_ble_eq_true rfl) hR1) (Nat.le_trans (Nat.le_of_ble_eq_true rfl) hR2) rfl rfl (Nat.le_of_ble_eq_true rfl) dC_helper_1 ?_
  replace hf := ite_c hf
  rcases hf with ⟨hc, hf⟩ | ⟨hc, hf⟩
  · refine ax_if_eqT 21 dC_helper_4 (by decide) hc ?_
    refine ax_bipush (-102 : Int32) dC_helper_21 k8_m102 ?_
    cases hf
    exact Hr _ _ dC_helper_23
  · refine ax_if_eqF 21 dC_helper_4 (by decide) hc ?_
    refine ax_iload_n (i := 2) dC_helper_7 rfl rfl ?_
    replace hf := bd1_s hf
    obtain ⟨x2, e_x2, hf⟩ := hf
    refine ax_callS (As := [.int p2]) (rest := []) (c_C_isFacts e_x2) ml_691 cm_C_isFacts (Nat.le_trans (Nat.le_of_ble_eq_true rfl) hR1) (Nat.le_trans (Nat.le_of_ble_eq_true rfl) hR2) rfl rfl (Nat.le_of_ble_eq_true rfl) dC_helper_8 ?_
    replace hf := ite_c hf
    rcases hf with ⟨hc, hf⟩ | ⟨hc, hf⟩
    · refine ax_if_eqT 21 dC_helper_11 (by decide) hc ?_
      refine ax_bipush (-102 : Int32) dC_helper_21 k8_m102 ?_
      cases hf
      exact Hr _ _ dC_helper_23
    · refine ax_if_eqF 21 dC_helper_11 (by decide) hc ?_
      refine ax_iload_n (i := 3) dC_helper_14 rfl rfl ?_
      replace hf := bd1_s hf
      obtain ⟨x3, e_x3, hf⟩ := hf
      refine ax_callS (As := [.int p3]) (rest := []) (c_C_isFacts e_x3) ml_691 cm_C_isFacts (Nat.le_trans (Nat.le_of_ble_eq_true rfl) hR1) (Nat.le_trans (Nat.le_of_ble_eq_true rfl) hR2) rfl rfl (Nat.le_of_ble_eq_true rfl) dC_helper_15 ?_
      replace hf := ite_c hf
      rcases hf with ⟨hc, hf⟩ | ⟨hc, hf⟩
      · refine ax_if_neF 24 dC_helper_18 (by decide) hc ?_
        refine ax_bipush (-102 : Int32) dC_helper_21 k8_m102 ?_
        cases hf
        exact Hr _ _ dC_helper_23
      · refine ax_if_neT 24 dC_helper_18 (by decide) hc ?_
        refine ax_aload_n (i := 0) (some o) dC_helper_24 rfl rfl ?_
        replace hf := bd1_s hf
        obtain ⟨r4, e_r4, hf⟩ := hf
        refine ax_getR fl_329 rfl dC_helper_25 e_r4 ?_
        replace hf := bd1_s hf
        obtain ⟨a5, e_d, hf⟩ := hf
        subst e_d
        replace hf := bd1_s hf
        obtain ⟨x6, e_x6, hf⟩ := hf
        refine ax_getI fl_239 rfl dC_helper_28 e_x6 ?_
        refine ax_bipush (8 : Int32) dC_helper_31 k8_8 ?_
        replace hf := ite_c hf
        rcases hf with ⟨hc, hf⟩ | ⟨hc, hf⟩
        · refine ax_icmp_ltT 39 dC_helper_33 (by decide) hc ?_
          refine ax_aload_n (i := 0) (some o) dC_helper_39 rfl rfl ?_
          replace hf := bd1_s hf
          obtain ⟨r7, e_r7, hf⟩ := hf
          refine ax_getR fl_329 rfl dC_helper_40 e_r7 ?_
          refine ax_new (ci := 4) rfl rfl w_694 dC_helper_43 ?_
          refine ax_dup dC_helper_46 rfl ?_
          refine ax_iload_n (i := 1) dC_helper_47 rfl rfl ?_
          refine ax_iload_n (i := 2) dC_helper_48 rfl rfl ?_
          refine ax_iload_n (i := 3) dC_helper_49 rfl rfl ?_
          replace hf := bd1_s hf
          obtain ⟨h9, e_h9, hf⟩ := hf
          refine ax_callI (As := [.int p1, .int p2, .int p3]) (rest := [va_rf (some (hM h0)), va_rf r7]) rfl (c_He_init e_h9) ml_696 cm_He_init (Nat.le_trans (Nat.le_of_ble_eq_true rfl) hR1) (Nat.le_trans (Nat.le_of_ble_eq_true rfl) hR2) rfl rfl (by simp only [List.map_cons, List.map_nil, List.sum_cons, List.sum_nil, cat_rf]; exact Nat.le_of_ble_eq_true rfl) dC_helper_50 ?_
          replace hf := bd1_s hf
          obtain ⟨a10, e_d, hf⟩ := hf
          subst e_d
          replace hf := bd2_s hf
          obtain ⟨x11, h12, e_x11, hf⟩ := hf
          obtain ⟨k_e_x11, e_x11⟩ := cv_s e_x11
          refine ax_callV (As := [va_rf (some (hM h0))]) (rest := []) (c_Ro_addHelper e_x11) ml_710 cm_Ro_addHelper rfl k_e_x11 (Nat.le_trans (Nat.le_of_ble_eq_true rfl) hR1) (Nat.le_trans (Nat.le_of_ble_eq_true rfl) hR2) rfl rfl (Nat.le_of_ble_eq_true rfl) dC_helper_53 ?_
          cases hf
          exact Hr _ _ dC_helper_56
        · refine ax_icmp_ltF 39 dC_helper_33 (by decide) hc ?_
          refine ax_bipush (-104 : Int32) dC_helper_36 k8_m104 ?_
          cases hf
          exact Hr _ _ dC_helper_38
theorem c_C_helper {l : Launch} {E : EN} {h0 : AH} {o : Nat} {p1 : Int32} {p2 : Int32} {p3 : Int32} {r : Int32} {hF : AH} (hf : f_C_helper h0 o p1 p2 p3 = some (r, hF)) : AM l E 2 mi_C_helper [va_rf (some o), .int p1, .int p2, .int p3] h0 (some (.int r)) hF :=
  am_of2 [(va_rf (some o), false), (.int p1, false), (.int p2, false), (.int p3, false)] 0 ⟨cat_rf _, rfl, rfl, rfl, trivial⟩ rfl rfl (v_C_helper (Nat.le_refl _) (Nat.le_refl _) (fun pc L hd => ax_iret rfl hd rfl) hf)
theorem v_Ro_helperNumbered {l : Launch} {E : EN} {R : Room} {B : (Nat × Nat) × (Nat × Nat)} {Qf : QF} {h0 : AH} {o : Nat} {p1 : Int32} {r : Option Nat} (hR1 : 1 ≤ R.frames) (hR2 : 64 ≤ R.locals) (Hr : ∀ (pc : Nat) (L : List (Option Value)), decode mi_Ro_helperNumbered.2.1 pc = .ok (.areturn, 1) → AW l E mi_Ro_helperNumbered R B Qf pc L [va_rf r] h0) (hf : f_Ro_helperNumbered h0 o p1 = some r) : AW l E mi_Ro_helperNumbered R B Qf 0 [some (va_rf (some o)), some (.int p1)] [] h0 := by
  unfold f_Ro_helperNumbered at hf
  refine ax_iload_n (i := 1) dRo_helperNumbered_0 rfl rfl ?_
  replace hf := ite_c hf
  rcases hf with ⟨hc, hf⟩ | ⟨hc, hf⟩
  · refine ax_if_ltT 12 dRo_helperNumbered_1 (by decide) hc ?_
    refine ax_null dRo_helperNumbered_12 ?_
    refine ax_goto 22 dRo_helperNumbered_13 (by decide) ?_
    cases hf
    exact Hr _ _ dRo_helperNumbered_22
  · refine ax_if_ltF 12 dRo_helperNumbered_1 (by decide) hc ?_
    refine ax_iload_n (i := 1) dRo_helperNumbered_4 rfl rfl ?_
    refine ax_aload_n (i := 0) (some o) dRo_helperNumbered_5 rfl rfl ?_
    replace hf := bd1_s hf
    obtain ⟨x1, e_x1, hf⟩ := hf
    refine ax_getI fl_238 rfl dRo_helperNumbered_6 e_x1 ?_
    replace hf := ite_c hf
    rcases hf with ⟨hc, hf⟩ | ⟨hc, hf⟩
    · refine ax_icmp_ltT 16 dRo_helperNumbered_9 (by decide) hc ?_
      refine ax_aload_n (i := 0) (some o) dRo_helperNumbered_16 rfl rfl ?_
      replace hf := bd1_s hf
      obtain ⟨r2, e_r2, hf⟩ := hf
      refine ax_getR fl_236 rfl dRo_helperNumbered_17 e_r2 ?_
      refine ax_iload_n (i := 1) dRo_helperNumbered_20 rfl rfl ?_
      replace hf := bd1_s hf
      obtain ⟨a3, e_d, hf⟩ := hf
      subst e_d
      replace hf := bd1_s hf
      obtain ⟨r4, e_r4, hf⟩ := hf
      refine ax_aald (c := 4) (by decide) rfl rfl dRo_helperNumbered_21 e_r4 ?_
      cases hf
      exact Hr _ _ dRo_helperNumbered_22
    · refine ax_icmp_ltF 16 dRo_helperNumbered_9 (by decide) hc ?_
      refine ax_null dRo_helperNumbered_12 ?_
      refine ax_goto 22 dRo_helperNumbered_13 (by decide) ?_
      cases hf
      exact Hr _ _ dRo_helperNumbered_22
theorem c_Ro_helperNumbered {l : Launch} {E : EN} {h0 : AH} {o : Nat} {p1 : Int32} {r : Option Nat} (hf : f_Ro_helperNumbered h0 o p1 = some r) : AM l E 1 mi_Ro_helperNumbered [va_rf (some o), .int p1] h0 (some (va_rf r)) h0 :=
  am_of2 [(va_rf (some o), false), (.int p1, false)] 0 ⟨cat_rf _, rfl, trivial⟩ rfl rfl (v_Ro_helperNumbered (Nat.le_refl _) (Nat.le_refl _) (fun pc L hd => ax_aret rfl hd rfl) hf)
theorem v_C_set {l : Launch} {E : EN} {R : Room} {B : (Nat × Nat) × (Nat × Nat)} {Qf : QF} {h0 : AH} {o : Nat} {p1 : Int32} {p2 : Int32} {p3 : Int32} {r : Int32} {hF : AH} (hR1 : 2 ≤ R.frames) (hR2 : 128 ≤ R.locals) (Hr : ∀ (pc : Nat) (L : List (Option Value)), decode mi_C_set.2.1 pc = .ok (.ireturn, 1) → AW l E mi_C_set R B Qf pc L [.int r] hF) (hf : f_C_set h0 o p1 p2 p3 = some (r, hF)) : AW l E mi_C_set R B Qf 0 [some (va_rf (some o)), some (.int p1), some (.int p2), some (.int p3), none, none] [] h0 := by
  unfold f_C_set at hf
  refine ax_aload_n (i := 0) (some o) dC_set_0 rfl rfl ?_
  replace hf := bd1_s hf
  obtain ⟨r1, e_r1, hf⟩ := hf
  refine ax_getR fl_329 rfl dC_set_1 e_r1 ?_
  refine ax_iload_n (i := 1) dC_set_4 rfl rfl ?_
  replace hf := bd1_s hf
  obtain ⟨a2, e_d, hf⟩ := hf
  subst e_d
  replace hf := bd1_s hf
  obtain ⟨r3, e_r3, hf⟩ := hf
  obtain ⟨k_e_r3, e_r3⟩ := cv_s e_r3
  refine ax_callV (As := [.int p1]) (rest := []) (c_Ro_helperNumbered e_r3) ml_718 cm_Ro_helperNumbered rfl k_e_r3 (Nat.le_trans (Nat.le_of_ble_eq_true rfl) hR1) (Nat.le_trans (Nat.le_of_ble_eq_true rfl) hR2) rfl rfl (Nat.le_of_ble_eq_true rfl) dC_set_5 ?_
  refine ax_astore (i := 4) (r := r3) [some (va_rf (some o)), some (.int p1), some (.int p2), some (.int p3), some (va_rf r3), none] dC_set_8 (Nat.le_of_ble_eq_true rfl) (Or.inr (c1i rfl)) rfl ?_
  refine ax_aload (i := 4) r3 dC_set_10 rfl ?_
  replace hf := onl_s hf
  rcases hf with ⟨e_d, hf⟩ | ⟨a4, e_d, hf⟩
  · subst e_d
    refine ax_ifnullT 24 dC_set_12 (by decide) ?_
    refine ax_bipush (-101 : Int32) dC_set_24 k8_m101 ?_
    cases hf
    exact Hr _ _ dC_set_26
  · subst e_d
    refine ax_ifnullF dC_set_12 ?_
    refine ax_iload_n (i := 2) dC_set_15 rfl rfl ?_
    replace hf := ite_c hf
    rcases hf with ⟨hc, hf⟩ | ⟨hc, hf⟩
    · refine ax_if_ltT 24 dC_set_16 (by decide) hc ?_
      refine ax_bipush (-101 : Int32) dC_set_24 k8_m101 ?_
      cases hf
      exact Hr _ _ dC_set_26
    · refine ax_if_ltF 24 dC_set_16 (by decide) hc ?_
      refine ax_iload_n (i := 2) dC_set_19 rfl rfl ?_
      refine ax_iconst (4 : Int32) dC_set_20 k32_4 ?_
      replace hf := ite_c hf
      rcases hf with ⟨hc, hf⟩ | ⟨hc, hf⟩
      · refine ax_icmp_leF 27 dC_set_21 (by decide) hc ?_
        refine ax_bipush (-101 : Int32) dC_set_24 k8_m101 ?_
        cases hf
        exact Hr _ _ dC_set_26
      · refine ax_icmp_leT 27 dC_set_21 (by decide) hc ?_
        refine ax_iload_n (i := 2) dC_set_27 rfl rfl ?_
        refine ax_iconst (4 : Int32) dC_set_28 k32_4 ?_
        replace hf := ite_c hf
        rcases hf with ⟨hc, hf⟩ | ⟨hc, hf⟩
        · refine ax_icmp_neF 51 dC_set_29 (by decide) hc ?_
          refine ax_iload_n (i := 3) dC_set_32 rfl rfl ?_
          refine ax_iconst (-1 : Int32) dC_set_33 k32_m1 ?_
          replace hf := ite_c hf
          rcases hf with ⟨hc, hf⟩ | ⟨hc, hf⟩
          · refine ax_icmp_eqT 72 dC_set_34 (by decide) hc ?_
            refine ax_aload (i := 4) (some a4) dC_set_72 rfl ?_
            replace hf := bd1_s hf
            obtain ⟨r13, e_r13, hf⟩ := hf
            refine ax_getR fl_706 rfl dC_set_74 e_r13 ?_
            refine ax_iload_n (i := 2) dC_set_77 rfl rfl ?_
            replace hf := bd1_s hf
            obtain ⟨a14, e_d, hf⟩ := hf
            subst e_d
            replace hf := bd1_s hf
            obtain ⟨x15, e_x15, hf⟩ := hf
            refine ax_iald dC_set_78 e_x15 ?_
            refine ax_istore (i := 5) [some (va_rf (some o)), some (.int p1), some (.int p2), some (.int p3), some (va_rf (some a4)), some (.int x15)] dC_set_79 (Nat.le_of_ble_eq_true rfl) (Or.inr (c1r rfl)) rfl ?_
            refine ax_aload (i := 4) (some a4) dC_set_81 rfl ?_
            replace hf := bd1_s hf
            obtain ⟨r16, e_r16, hf⟩ := hf
            refine ax_getR fl_706 rfl dC_set_83 e_r16 ?_
            refine ax_iload_n (i := 2) dC_set_86 rfl rfl ?_
            refine ax_iload_n (i := 3) dC_set_87 rfl rfl ?_
            replace hf := bd1_s hf
            obtain ⟨a17, e_d, hf⟩ := hf
            subst e_d
            replace hf := bd1_s hf
            obtain ⟨h18, e_h18, hf⟩ := hf
            refine ax_iast dC_set_88 e_h18 ?_
            refine ax_iload (i := 5) dC_set_89 rfl ?_
            cases hf
            exact Hr _ _ dC_set_91
          · refine ax_icmp_eqF 72 dC_set_34 (by decide) hc ?_
            refine ax_aload_n (i := 0) (some o) dC_set_37 rfl rfl ?_
            replace hf := bd1_s hf
            obtain ⟨r19, e_r19, hf⟩ := hf
            refine ax_getR fl_329 rfl dC_set_38 e_r19 ?_
            refine ax_iload_n (i := 3) dC_set_41 rfl rfl ?_
            replace hf := bd1_s hf
            obtain ⟨a20, e_d, hf⟩ := hf
            subst e_d
            replace hf := bd1_s hf
            obtain ⟨r21, e_r21, hf⟩ := hf
            obtain ⟨k_e_r21, e_r21⟩ := cv_s e_r21
            refine ax_callV (As := [.int p3]) (rest := []) (c_Ro_helperNumbered e_r21) ml_718 cm_Ro_helperNumbered rfl k_e_r21 (Nat.le_trans (Nat.le_of_ble_eq_true rfl) hR1) (Nat.le_trans (Nat.le_of_ble_eq_true rfl) hR2) rfl rfl (Nat.le_of_ble_eq_true rfl) dC_set_42 ?_
            replace hf := onl_s hf
            rcases hf with ⟨e_d, hf⟩ | ⟨a22, e_d, hf⟩
            · subst e_d
              refine ax_ifnonnullF dC_set_45 ?_
              refine ax_bipush (-101 : Int32) dC_set_48 k8_m101 ?_
              cases hf
              exact Hr _ _ dC_set_50
            · subst e_d
              refine ax_ifnonnullT 72 dC_set_45 (by decide) ?_
              refine ax_aload (i := 4) (some a4) dC_set_72 rfl ?_
              replace hf := bd1_s hf
              obtain ⟨r23, e_r23, hf⟩ := hf
              refine ax_getR fl_706 rfl dC_set_74 e_r23 ?_
              refine ax_iload_n (i := 2) dC_set_77 rfl rfl ?_
              replace hf := bd1_s hf
              obtain ⟨a24, e_d, hf⟩ := hf
              subst e_d
              replace hf := bd1_s hf
              obtain ⟨x25, e_x25, hf⟩ := hf
              refine ax_iald dC_set_78 e_x25 ?_
              refine ax_istore (i := 5) [some (va_rf (some o)), some (.int p1), some (.int p2), some (.int p3), some (va_rf (some a4)), some (.int x25)] dC_set_79 (Nat.le_of_ble_eq_true rfl) (Or.inr (c1r rfl)) rfl ?_
              refine ax_aload (i := 4) (some a4) dC_set_81 rfl ?_
              replace hf := bd1_s hf
              obtain ⟨r26, e_r26, hf⟩ := hf
              refine ax_getR fl_706 rfl dC_set_83 e_r26 ?_
              refine ax_iload_n (i := 2) dC_set_86 rfl rfl ?_
              refine ax_iload_n (i := 3) dC_set_87 rfl rfl ?_
              replace hf := bd1_s hf
              obtain ⟨a27, e_d, hf⟩ := hf
              subst e_d
              replace hf := bd1_s hf
              obtain ⟨h28, e_h28, hf⟩ := hf
              refine ax_iast dC_set_88 e_h28 ?_
              refine ax_iload (i := 5) dC_set_89 rfl ?_
              cases hf
              exact Hr _ _ dC_set_91
        · refine ax_icmp_neT 51 dC_set_29 (by decide) hc ?_
          refine ax_iload_n (i := 3) dC_set_51 rfl rfl ?_
          refine ax_gets (j := 0) rfl (Or.inl w_722) dC_set_52 ?_
          refine ax_iload_n (i := 2) dC_set_55 rfl rfl ?_
          replace hf := bd1_s hf
          obtain ⟨x5, e_x5, hf⟩ := hf
          refine ax_iald dC_set_56 e_x5 ?_
          replace hf := ite_c hf
          rcases hf with ⟨hc, hf⟩ | ⟨hc, hf⟩
          · refine ax_icmp_ltT 69 dC_set_57 (by decide) hc ?_
            refine ax_bipush (-102 : Int32) dC_set_69 k8_m102 ?_
            cases hf
            exact Hr _ _ dC_set_71
          · refine ax_icmp_ltF 69 dC_set_57 (by decide) hc ?_
            refine ax_iload_n (i := 3) dC_set_60 rfl rfl ?_
            refine ax_gets (j := 1) rfl (Or.inl w_724) dC_set_61 ?_
            refine ax_iload_n (i := 2) dC_set_64 rfl rfl ?_
            replace hf := bd1_s hf
            obtain ⟨x6, e_x6, hf⟩ := hf
            refine ax_iald dC_set_65 e_x6 ?_
            replace hf := ite_c hf
            rcases hf with ⟨hc, hf⟩ | ⟨hc, hf⟩
            · refine ax_icmp_leF 72 dC_set_66 (by decide) hc ?_
              refine ax_bipush (-102 : Int32) dC_set_69 k8_m102 ?_
              cases hf
              exact Hr _ _ dC_set_71
            · refine ax_icmp_leT 72 dC_set_66 (by decide) hc ?_
              refine ax_aload (i := 4) (some a4) dC_set_72 rfl ?_
              replace hf := bd1_s hf
              obtain ⟨r7, e_r7, hf⟩ := hf
              refine ax_getR fl_706 rfl dC_set_74 e_r7 ?_
              refine ax_iload_n (i := 2) dC_set_77 rfl rfl ?_
              replace hf := bd1_s hf
              obtain ⟨a8, e_d, hf⟩ := hf
              subst e_d
              replace hf := bd1_s hf
              obtain ⟨x9, e_x9, hf⟩ := hf
              refine ax_iald dC_set_78 e_x9 ?_
              refine ax_istore (i := 5) [some (va_rf (some o)), some (.int p1), some (.int p2), some (.int p3), some (va_rf (some a4)), some (.int x9)] dC_set_79 (Nat.le_of_ble_eq_true rfl) (Or.inr (c1r rfl)) rfl ?_
              refine ax_aload (i := 4) (some a4) dC_set_81 rfl ?_
              replace hf := bd1_s hf
              obtain ⟨r10, e_r10, hf⟩ := hf
              refine ax_getR fl_706 rfl dC_set_83 e_r10 ?_
              refine ax_iload_n (i := 2) dC_set_86 rfl rfl ?_
              refine ax_iload_n (i := 3) dC_set_87 rfl rfl ?_
              replace hf := bd1_s hf
              obtain ⟨a11, e_d, hf⟩ := hf
              subst e_d
              replace hf := bd1_s hf
              obtain ⟨h12, e_h12, hf⟩ := hf
              refine ax_iast dC_set_88 e_h12 ?_
              refine ax_iload (i := 5) dC_set_89 rfl ?_
              cases hf
              exact Hr _ _ dC_set_91
theorem c_C_set {l : Launch} {E : EN} {h0 : AH} {o : Nat} {p1 : Int32} {p2 : Int32} {p3 : Int32} {r : Int32} {hF : AH} (hf : f_C_set h0 o p1 p2 p3 = some (r, hF)) : AM l E 2 mi_C_set [va_rf (some o), .int p1, .int p2, .int p3] h0 (some (.int r)) hF :=
  am_of2 [(va_rf (some o), false), (.int p1, false), (.int p2, false), (.int p3, false)] 2 ⟨cat_rf _, rfl, rfl, rfl, trivial⟩ rfl rfl (v_C_set (Nat.le_refl _) (Nat.le_refl _) (fun pc L hd => ax_iret rfl hd rfl) hf)
theorem v_C_isFact {l : Launch} {E : EN} {R : Room} {B : (Nat × Nat) × (Nat × Nat)} {Qf : QF} {h0 : AH} {p1 : Int32} {r : Int32} (hR1 : 1 ≤ R.frames) (hR2 : 64 ≤ R.locals) (Hr : (r = 0 ∨ r = 1) → ∀ (pc : Nat) (L : List (Option Value)), decode mi_C_isFact.2.1 pc = .ok (.ireturn, 1) → AW l E mi_C_isFact R B Qf pc L [.int r] h0) (hf : f_C_isFact h0 p1 = some r) : AW l E mi_C_isFact R B Qf 0 [some (.int p1)] [] h0 := by
  unfold f_C_isFact at hf
  refine ax_iload_n (i := 0) dC_isFact_0 rfl rfl ?_
  replace hf := ite_c hf
  rcases hf with ⟨hc, hf⟩ | ⟨hc, hf⟩
  · refine ax_if_ltT 14 dC_isFact_1 (by decide) hc ?_
    refine ax_iconst (0 : Int32) dC_isFact_14 k32_0 ?_
    cases hf
    exact Hr (Or.inl rfl) _ _ dC_isFact_15
  · refine ax_if_ltF 14 dC_isFact_1 (by decide) hc ?_
    refine ax_iload_n (i := 0) dC_isFact_4 rfl rfl ?_
    refine ax_bipush (12 : Int32) dC_isFact_5 k8_12 ?_
    replace hf := ite_c hf
    rcases hf with ⟨hc, hf⟩ | ⟨hc, hf⟩
    · refine ax_icmp_geF 14 dC_isFact_7 (by decide) hc ?_
      refine ax_iconst (1 : Int32) dC_isFact_10 k32_1 ?_
      refine ax_goto 15 dC_isFact_11 (by decide) ?_
      cases hf
      exact Hr (Or.inr rfl) _ _ dC_isFact_15
    · refine ax_icmp_geT 14 dC_isFact_7 (by decide) hc ?_
      refine ax_iconst (0 : Int32) dC_isFact_14 k32_0 ?_
      cases hf
      exact Hr (Or.inl rfl) _ _ dC_isFact_15
theorem c_C_isFact {l : Launch} {E : EN} {h0 : AH} {p1 : Int32} {r : Int32} (hf : f_C_isFact h0 p1 = some r) : AM l E 1 mi_C_isFact [.int p1] h0 (some (.int r)) h0 :=
  am_of2 [(.int p1, false)] 0 ⟨rfl, trivial⟩ rfl rfl (v_C_isFact (Nat.le_refl _) (Nat.le_refl _) (fun hz pc L hd => ax_zret rfl hz hd rfl) hf)
theorem v_C_level {l : Launch} {E : EN} {R : Room} {B : (Nat × Nat) × (Nat × Nat)} {Qf : QF} {h0 : AH} {o : Nat} {p1 : Int32} {p2 : Int32} {r : Int32} {hF : AH} (hR1 : 2 ≤ R.frames) (hR2 : 128 ≤ R.locals) (Hr : ∀ (pc : Nat) (L : List (Option Value)), decode mi_C_level.2.1 pc = .ok (.ireturn, 1) → AW l E mi_C_level R B Qf pc L [.int r] hF) (hf : f_C_level h0 o p1 p2 = some (r, hF)) : AW l E mi_C_level R B Qf 0 [some (va_rf (some o)), some (.int p1), some (.int p2), none] [] h0 := by
  unfold f_C_level at hf
  refine ax_iload_n (i := 1) dC_level_0 rfl rfl ?_
  replace hf := bd1_s hf
  obtain ⟨x1, e_x1, hf⟩ := hf
  refine ax_callS (As := [.int p1]) (rest := []) (c_C_isFact e_x1) ml_729 cm_C_isFact (Nat.le_trans (Nat.le_of_ble_eq_true rfl) hR1) (Nat.le_trans (Nat.le_of_ble_eq_true rfl) hR2) rfl rfl (Nat.le_of_ble_eq_true rfl) dC_level_1 ?_
  replace hf := ite_c hf
  rcases hf with ⟨hc, hf⟩ | ⟨hc, hf⟩
  · refine ax_if_neF 10 dC_level_4 (by decide) hc ?_
    refine ax_bipush (-101 : Int32) dC_level_7 k8_m101 ?_
    cases hf
    exact Hr _ _ dC_level_9
  · refine ax_if_neT 10 dC_level_4 (by decide) hc ?_
    refine ax_iload_n (i := 2) dC_level_10 rfl rfl ?_
    replace hf := ite_c hf
    rcases hf with ⟨hc, hf⟩ | ⟨hc, hf⟩
    · refine ax_if_ltT 19 dC_level_11 (by decide) hc ?_
      refine ax_bipush (-102 : Int32) dC_level_19 k8_m102 ?_
      cases hf
      exact Hr _ _ dC_level_21
    · refine ax_if_ltF 19 dC_level_11 (by decide) hc ?_
      refine ax_iload_n (i := 2) dC_level_14 rfl rfl ?_
      refine ax_iconst (3 : Int32) dC_level_15 k32_3 ?_
      replace hf := ite_c hf
      rcases hf with ⟨hc, hf⟩ | ⟨hc, hf⟩
      · refine ax_icmp_leF 22 dC_level_16 (by decide) hc ?_
        refine ax_bipush (-102 : Int32) dC_level_19 k8_m102 ?_
        cases hf
        exact Hr _ _ dC_level_21
      · refine ax_icmp_leT 22 dC_level_16 (by decide) hc ?_
        refine ax_aload_n (i := 0) (some o) dC_level_22 rfl rfl ?_
        replace hf := bd1_s hf
        obtain ⟨r2, e_r2, hf⟩ := hf
        refine ax_getR fl_329 rfl dC_level_23 e_r2 ?_
        replace hf := bd1_s hf
        obtain ⟨a3, e_d, hf⟩ := hf
        subst e_d
        replace hf := bd1_s hf
        obtain ⟨r4, e_r4, hf⟩ := hf
        refine ax_getR fl_241 rfl dC_level_26 e_r4 ?_
        refine ax_iload_n (i := 1) dC_level_29 rfl rfl ?_
        replace hf := bd1_s hf
        obtain ⟨a5, e_d, hf⟩ := hf
        subst e_d
        replace hf := bd1_s hf
        obtain ⟨x6, e_x6, hf⟩ := hf
        refine ax_iald dC_level_30 e_x6 ?_
        refine ax_istore_n (i := 3) [some (va_rf (some o)), some (.int p1), some (.int p2), some (.int x6)] dC_level_31 rfl (Nat.le_of_ble_eq_true rfl) (Or.inr (c1i rfl)) rfl ?_
        refine ax_aload_n (i := 0) (some o) dC_level_32 rfl rfl ?_
        replace hf := bd1_s hf
        obtain ⟨r7, e_r7, hf⟩ := hf
        refine ax_getR fl_329 rfl dC_level_33 e_r7 ?_
        replace hf := bd1_s hf
        obtain ⟨a8, e_d, hf⟩ := hf
        subst e_d
        replace hf := bd1_s hf
        obtain ⟨r9, e_r9, hf⟩ := hf
        refine ax_getR fl_241 rfl dC_level_36 e_r9 ?_
        refine ax_iload_n (i := 1) dC_level_39 rfl rfl ?_
        refine ax_iload_n (i := 2) dC_level_40 rfl rfl ?_
        replace hf := bd1_s hf
        obtain ⟨a10, e_d, hf⟩ := hf
        subst e_d
        replace hf := bd1_s hf
        obtain ⟨h11, e_h11, hf⟩ := hf
        refine ax_iast dC_level_41 e_h11 ?_
        refine ax_iload_n (i := 3) dC_level_42 rfl rfl ?_
        cases hf
        exact Hr _ _ dC_level_43
theorem c_C_level {l : Launch} {E : EN} {h0 : AH} {o : Nat} {p1 : Int32} {p2 : Int32} {r : Int32} {hF : AH} (hf : f_C_level h0 o p1 p2 = some (r, hF)) : AM l E 2 mi_C_level [va_rf (some o), .int p1, .int p2] h0 (some (.int r)) hF :=
  am_of2 [(va_rf (some o), false), (.int p1, false), (.int p2, false)] 1 ⟨cat_rf _, rfl, rfl, trivial⟩ rfl rfl (v_C_level (Nat.le_refl _) (Nat.le_refl _) (fun pc L hd => ax_iret rfl hd rfl) hf)
theorem v_C_about {l : Launch} {E : EN} {R : Room} {B : (Nat × Nat) × (Nat × Nat)} {Qf : QF} {h0 : AH} {o : Nat} {p1 : Int32} {p2 : Int32} {r : Int32} (hR1 : 2 ≤ R.frames) (hR2 : 128 ≤ R.locals) (Hr : ∀ (pc : Nat) (L : List (Option Value)), decode mi_C_about.2.1 pc = .ok (.ireturn, 1) → AW l E mi_C_about R B Qf pc L [.int r] h0) (hf : f_C_about h0 o p1 p2 = some r) : AW l E mi_C_about R B Qf 0 [some (va_rf (some o)), some (.int p1), some (.int p2), none] [] h0 := by
  unfold f_C_about at hf
  refine ax_aload_n (i := 0) (some o) dC_about_0 rfl rfl ?_
  replace hf := bd1_s hf
  obtain ⟨r1, e_r1, hf⟩ := hf
  refine ax_getR fl_329 rfl dC_about_1 e_r1 ?_
  refine ax_iload_n (i := 1) dC_about_4 rfl rfl ?_
  replace hf := bd1_s hf
  obtain ⟨a2, e_d, hf⟩ := hf
  subst e_d
  replace hf := bd1_s hf
  obtain ⟨r3, e_r3, hf⟩ := hf
  obtain ⟨k_e_r3, e_r3⟩ := cv_s e_r3
  refine ax_callV (As := [.int p1]) (rest := []) (c_Ro_helperNumbered e_r3) ml_718 cm_Ro_helperNumbered rfl k_e_r3 (Nat.le_trans (Nat.le_of_ble_eq_true rfl) hR1) (Nat.le_trans (Nat.le_of_ble_eq_true rfl) hR2) rfl rfl (Nat.le_of_ble_eq_true rfl) dC_about_5 ?_
  refine ax_astore_n (i := 3) (r := r3) [some (va_rf (some o)), some (.int p1), some (.int p2), some (va_rf r3)] dC_about_8 rfl (Nat.le_of_ble_eq_true rfl) (Or.inr (c1i rfl)) rfl ?_
  refine ax_aload_n (i := 3) r3 dC_about_9 rfl rfl ?_
  replace hf := onl_s hf
  rcases hf with ⟨e_d, hf⟩ | ⟨a4, e_d, hf⟩
  · subst e_d
    refine ax_ifnonnullF dC_about_10 ?_
    refine ax_bipush (-101 : Int32) dC_about_13 k8_m101 ?_
    cases hf
    exact Hr _ _ dC_about_15
  · subst e_d
    refine ax_ifnonnullT 16 dC_about_10 (by decide) ?_
    refine ax_iload_n (i := 2) dC_about_16 rfl rfl ?_
    replace hf := ite_c hf
    rcases hf with ⟨hc, hf⟩ | ⟨hc, hf⟩
    · refine ax_if_ltT 26 dC_about_17 (by decide) hc ?_
      refine ax_bipush (-102 : Int32) dC_about_26 k8_m102 ?_
      cases hf
      exact Hr _ _ dC_about_28
    · refine ax_if_ltF 26 dC_about_17 (by decide) hc ?_
      refine ax_iload_n (i := 2) dC_about_20 rfl rfl ?_
      refine ax_bipush (8 : Int32) dC_about_21 k8_8 ?_
      replace hf := ite_c hf
      rcases hf with ⟨hc, hf⟩ | ⟨hc, hf⟩
      · refine ax_icmp_ltT 29 dC_about_23 (by decide) hc ?_
        refine ax_aload_n (i := 3) (some a4) dC_about_29 rfl rfl ?_
        replace hf := bd1_s hf
        obtain ⟨r5, e_r5, hf⟩ := hf
        refine ax_getR fl_706 rfl dC_about_30 e_r5 ?_
        refine ax_iload_n (i := 2) dC_about_33 rfl rfl ?_
        replace hf := bd1_s hf
        obtain ⟨a6, e_d, hf⟩ := hf
        subst e_d
        replace hf := bd1_s hf
        obtain ⟨x7, e_x7, hf⟩ := hf
        refine ax_iald dC_about_34 e_x7 ?_
        cases hf
        exact Hr _ _ dC_about_35
      · refine ax_icmp_ltF 29 dC_about_23 (by decide) hc ?_
        refine ax_bipush (-102 : Int32) dC_about_26 k8_m102 ?_
        cases hf
        exact Hr _ _ dC_about_28
theorem c_C_about {l : Launch} {E : EN} {h0 : AH} {o : Nat} {p1 : Int32} {p2 : Int32} {r : Int32} (hf : f_C_about h0 o p1 p2 = some r) : AM l E 2 mi_C_about [va_rf (some o), .int p1, .int p2] h0 (some (.int r)) h0 :=
  am_of2 [(va_rf (some o), false), (.int p1, false), (.int p2, false)] 1 ⟨cat_rf _, rfl, rfl, trivial⟩ rfl rfl (v_C_about (Nat.le_refl _) (Nat.le_refl _) (fun pc L hd => ax_iret rfl hd rfl) hf)
theorem v_C_put {l : Launch} {E : EN} {R : Room} {B : (Nat × Nat) × (Nat × Nat)} {Qf : QF} {h0 : AH} {o : Nat} {p1 : Int32} {r : Int32} {hF : AH} (hR1 : 2 ≤ R.frames) (hR2 : 128 ≤ R.locals) (Hr : ∀ (pc : Nat) (L : List (Option Value)), decode mi_C_put.2.1 pc = .ok (.ireturn, 1) → AW l E mi_C_put R B Qf pc L [.int r] hF) (hf : f_C_put h0 o p1 = some (r, hF)) : AW l E mi_C_put R B Qf 0 [some (va_rf (some o)), some (.int p1)] [] h0 := by
  unfold f_C_put at hf
  refine ax_aload_n (i := 0) (some o) dC_put_0 rfl rfl ?_
  replace hf := bd1_s hf
  obtain ⟨r1, e_r1, hf⟩ := hf
  refine ax_getR fl_329 rfl dC_put_1 e_r1 ?_
  refine ax_iload_n (i := 1) dC_put_4 rfl rfl ?_
  replace hf := bd1_s hf
  obtain ⟨a2, e_d, hf⟩ := hf
  subst e_d
  replace hf := bd1_s hf
  obtain ⟨r3, e_r3, hf⟩ := hf
  obtain ⟨k_e_r3, e_r3⟩ := cv_s e_r3
  refine ax_callV (As := [.int p1]) (rest := []) (c_Ro_helperNumbered e_r3) ml_718 cm_Ro_helperNumbered rfl k_e_r3 (Nat.le_trans (Nat.le_of_ble_eq_true rfl) hR1) (Nat.le_trans (Nat.le_of_ble_eq_true rfl) hR2) rfl rfl (Nat.le_of_ble_eq_true rfl) dC_put_5 ?_
  replace hf := onl_s hf
  rcases hf with ⟨e_d, hf⟩ | ⟨a4, e_d, hf⟩
  · subst e_d
    refine ax_ifnonnullF dC_put_8 ?_
    refine ax_bipush (-101 : Int32) dC_put_11 k8_m101 ?_
    cases hf
    exact Hr _ _ dC_put_13
  · subst e_d
    refine ax_ifnonnullT 14 dC_put_8 (by decide) ?_
    refine ax_aload_n (i := 0) (some o) dC_put_14 rfl rfl ?_
    replace hf := bd1_s hf
    obtain ⟨r5, e_r5, hf⟩ := hf
    refine ax_getR fl_329 rfl dC_put_15 e_r5 ?_
    replace hf := bd1_s hf
    obtain ⟨a6, e_d, hf⟩ := hf
    subst e_d
    replace hf := bd1_s hf
    obtain ⟨x7, e_x7, hf⟩ := hf
    refine ax_getI fl_245 rfl dC_put_18 e_x7 ?_
    refine ax_iconst (5 : Int32) dC_put_21 k32_5 ?_
    replace hf := ite_c hf
    rcases hf with ⟨hc, hf⟩ | ⟨hc, hf⟩
    · refine ax_icmp_ltT 28 dC_put_22 (by decide) hc ?_
      refine ax_aload_n (i := 0) (some o) dC_put_28 rfl rfl ?_
      replace hf := bd1_s hf
      obtain ⟨r8, e_r8, hf⟩ := hf
      refine ax_getR fl_329 rfl dC_put_29 e_r8 ?_
      replace hf := bd1_s hf
      obtain ⟨a9, e_d, hf⟩ := hf
      subst e_d
      replace hf := bd1_s hf
      obtain ⟨r10, e_r10, hf⟩ := hf
      refine ax_getR fl_243 rfl dC_put_32 e_r10 ?_
      refine ax_aload_n (i := 0) (some o) dC_put_35 rfl rfl ?_
      replace hf := bd1_s hf
      obtain ⟨r11, e_r11, hf⟩ := hf
      refine ax_getR fl_329 rfl dC_put_36 e_r11 ?_
      replace hf := bd1_s hf
      obtain ⟨a12, e_d, hf⟩ := hf
      subst e_d
      replace hf := bd1_s hf
      obtain ⟨x13, e_x13, hf⟩ := hf
      refine ax_getI fl_245 rfl dC_put_39 e_x13 ?_
      refine ax_iload_n (i := 1) dC_put_42 rfl rfl ?_
      replace hf := bd1_s hf
      obtain ⟨a14, e_d, hf⟩ := hf
      subst e_d
      replace hf := bd1_s hf
      obtain ⟨h15, e_h15, hf⟩ := hf
      refine ax_iast dC_put_43 e_h15 ?_
      refine ax_aload_n (i := 0) (some o) dC_put_44 rfl rfl ?_
      replace hf := bd1_s hf
      obtain ⟨r16, e_r16, hf⟩ := hf
      refine ax_getR fl_329 rfl dC_put_45 e_r16 ?_
      refine ax_dup dC_put_48 (cat_rf _) ?_
      replace hf := bd1_s hf
      obtain ⟨a17, e_d, hf⟩ := hf
      subst e_d
      replace hf := bd1_s hf
      obtain ⟨x18, e_x18, hf⟩ := hf
      refine ax_getI fl_245 rfl dC_put_49 e_x18 ?_
      refine ax_iconst (1 : Int32) dC_put_52 k32_1 ?_
      refine ax_iadd dC_put_53 ?_
      replace hf := bd1_s hf
      obtain ⟨h19, e_h19, hf⟩ := hf
      refine ax_putI fw_245 rfl rfl dC_put_54 e_h19 ?_
      refine ax_aload_n (i := 0) (some o) dC_put_57 rfl rfl ?_
      replace hf := bd1_s hf
      obtain ⟨r20, e_r20, hf⟩ := hf
      refine ax_getR fl_329 rfl dC_put_58 e_r20 ?_
      replace hf := bd1_s hf
      obtain ⟨a21, e_d, hf⟩ := hf
      subst e_d
      replace hf := bd1_s hf
      obtain ⟨x22, e_x22, hf⟩ := hf
      refine ax_getI fl_245 rfl dC_put_61 e_x22 ?_
      cases hf
      exact Hr _ _ dC_put_64
    · refine ax_icmp_ltF 28 dC_put_22 (by decide) hc ?_
      refine ax_bipush (-104 : Int32) dC_put_25 k8_m104 ?_
      cases hf
      exact Hr _ _ dC_put_27
theorem c_C_put {l : Launch} {E : EN} {h0 : AH} {o : Nat} {p1 : Int32} {r : Int32} {hF : AH} (hf : f_C_put h0 o p1 = some (r, hF)) : AM l E 2 mi_C_put [va_rf (some o), .int p1] h0 (some (.int r)) hF :=
  am_of2 [(va_rf (some o), false), (.int p1, false)] 0 ⟨cat_rf _, rfl, trivial⟩ rfl rfl (v_C_put (Nat.le_refl _) (Nat.le_refl _) (fun pc L hd => ax_iret rfl hd rfl) hf)
theorem v_C_empty {l : Launch} {E : EN} {R : Room} {B : (Nat × Nat) × (Nat × Nat)} {Qf : QF} {h0 : AH} {o : Nat} {r : Int32} {hF : AH} (hR1 : 1 ≤ R.frames) (hR2 : 64 ≤ R.locals) (Hr : ∀ (pc : Nat) (L : List (Option Value)), decode mi_C_empty.2.1 pc = .ok (.ireturn, 1) → AW l E mi_C_empty R B Qf pc L [.int r] hF) (hf : f_C_empty h0 o = some (r, hF)) : AW l E mi_C_empty R B Qf 0 [some (va_rf (some o)), none] [] h0 := by
  unfold f_C_empty at hf
  refine ax_aload_n (i := 0) (some o) dC_empty_0 rfl rfl ?_
  replace hf := bd1_s hf
  obtain ⟨r1, e_r1, hf⟩ := hf
  refine ax_getR fl_329 rfl dC_empty_1 e_r1 ?_
  replace hf := bd1_s hf
  obtain ⟨a2, e_d, hf⟩ := hf
  subst e_d
  replace hf := bd1_s hf
  obtain ⟨x3, e_x3, hf⟩ := hf
  refine ax_getI fl_245 rfl dC_empty_4 e_x3 ?_
  refine ax_istore_n (i := 1) [some (va_rf (some o)), some (.int x3)] dC_empty_7 rfl (Nat.le_of_ble_eq_true rfl) (Or.inr (c1r rfl)) rfl ?_
  refine ax_aload_n (i := 0) (some o) dC_empty_8 rfl rfl ?_
  replace hf := bd1_s hf
  obtain ⟨r4, e_r4, hf⟩ := hf
  refine ax_getR fl_329 rfl dC_empty_9 e_r4 ?_
  refine ax_iconst (0 : Int32) dC_empty_12 k32_0 ?_
  replace hf := bd1_s hf
  obtain ⟨a5, e_d, hf⟩ := hf
  subst e_d
  replace hf := bd1_s hf
  obtain ⟨h6, e_h6, hf⟩ := hf
  refine ax_putI fw_245 rfl rfl dC_empty_13 e_h6 ?_
  refine ax_iload_n (i := 1) dC_empty_16 rfl rfl ?_
  cases hf
  exact Hr _ _ dC_empty_17
theorem c_C_empty {l : Launch} {E : EN} {h0 : AH} {o : Nat} {r : Int32} {hF : AH} (hf : f_C_empty h0 o = some (r, hF)) : AM l E 1 mi_C_empty [va_rf (some o)] h0 (some (.int r)) hF :=
  am_of2 [(va_rf (some o), false)] 1 ⟨cat_rf _, trivial⟩ rfl rfl (v_C_empty (Nat.le_refl _) (Nat.le_refl _) (fun pc L hd => ax_iret rfl hd rfl) hf)
theorem v_C_at {l : Launch} {E : EN} {R : Room} {B : (Nat × Nat) × (Nat × Nat)} {Qf : QF} {h0 : AH} {o : Nat} {p1 : Int32} {r : Int32} (hR1 : 1 ≤ R.frames) (hR2 : 64 ≤ R.locals) (Hr : ∀ (pc : Nat) (L : List (Option Value)), decode mi_C_at.2.1 pc = .ok (.ireturn, 1) → AW l E mi_C_at R B Qf pc L [.int r] h0) (hf : f_C_at h0 o p1 = some r) : AW l E mi_C_at R B Qf 0 [some (va_rf (some o)), some (.int p1)] [] h0 := by
  unfold f_C_at at hf
  refine ax_iload_n (i := 1) dC_at_0 rfl rfl ?_
  replace hf := ite_c hf
  rcases hf with ⟨hc, hf⟩ | ⟨hc, hf⟩
  · refine ax_if_ltT 15 dC_at_1 (by decide) hc ?_
    refine ax_iconst (-1 : Int32) dC_at_15 k32_m1 ?_
    refine ax_goto 28 dC_at_16 (by decide) ?_
    cases hf
    exact Hr _ _ dC_at_28
  · refine ax_if_ltF 15 dC_at_1 (by decide) hc ?_
    refine ax_iload_n (i := 1) dC_at_4 rfl rfl ?_
    refine ax_aload_n (i := 0) (some o) dC_at_5 rfl rfl ?_
    replace hf := bd1_s hf
    obtain ⟨r1, e_r1, hf⟩ := hf
    refine ax_getR fl_329 rfl dC_at_6 e_r1 ?_
    replace hf := bd1_s hf
    obtain ⟨a2, e_d, hf⟩ := hf
    subst e_d
    replace hf := bd1_s hf
    obtain ⟨x3, e_x3, hf⟩ := hf
    refine ax_getI fl_245 rfl dC_at_9 e_x3 ?_
    replace hf := ite_c hf
    rcases hf with ⟨hc, hf⟩ | ⟨hc, hf⟩
    · refine ax_icmp_ltT 19 dC_at_12 (by decide) hc ?_
      refine ax_aload_n (i := 0) (some o) dC_at_19 rfl rfl ?_
      replace hf := bd1_s hf
      obtain ⟨r4, e_r4, hf⟩ := hf
      refine ax_getR fl_329 rfl dC_at_20 e_r4 ?_
      replace hf := bd1_s hf
      obtain ⟨a5, e_d, hf⟩ := hf
      subst e_d
      replace hf := bd1_s hf
      obtain ⟨r6, e_r6, hf⟩ := hf
      refine ax_getR fl_243 rfl dC_at_23 e_r6 ?_
      refine ax_iload_n (i := 1) dC_at_26 rfl rfl ?_
      replace hf := bd1_s hf
      obtain ⟨a7, e_d, hf⟩ := hf
      subst e_d
      replace hf := bd1_s hf
      obtain ⟨x8, e_x8, hf⟩ := hf
      refine ax_iald dC_at_27 e_x8 ?_
      cases hf
      exact Hr _ _ dC_at_28
    · refine ax_icmp_ltF 19 dC_at_12 (by decide) hc ?_
      refine ax_iconst (-1 : Int32) dC_at_15 k32_m1 ?_
      refine ax_goto 28 dC_at_16 (by decide) ?_
      cases hf
      exact Hr _ _ dC_at_28
theorem c_C_at {l : Launch} {E : EN} {h0 : AH} {o : Nat} {p1 : Int32} {r : Int32} (hf : f_C_at h0 o p1 = some r) : AM l E 1 mi_C_at [va_rf (some o), .int p1] h0 (some (.int r)) h0 :=
  am_of2 [(va_rf (some o), false), (.int p1, false)] 0 ⟨cat_rf _, rfl, trivial⟩ rfl rfl (v_C_at (Nat.le_refl _) (Nat.le_refl _) (fun pc L hd => ax_iret rfl hd rfl) hf)
theorem v_Go_startWith {l : Launch} {E : EN} {R : Room} {B : (Nat × Nat) × (Nat × Nat)} {Qf : QF} {h0 : AH} {o : Nat} {p1 : Int32} {p2 : Option Nat} {hF : AH} (hR1 : 2 ≤ R.frames) (hR2 : 128 ≤ R.locals) (Hr : ∀ (pc : Nat) (L : List (Option Value)), decode mi_Go_startWith.2.1 pc = .ok (.return_, 1) → AW l E mi_Go_startWith R B Qf pc L [] hF) (hf : f_Go_startWith h0 o p1 p2 = some hF) : AW l E mi_Go_startWith R B Qf 0 [some (va_rf (some o)), some (.int p1), some (va_rf p2)] [] h0 := by
  unfold f_Go_startWith at hf
  refine ax_aload_n (i := 0) (some o) dGo_startWith_0 rfl rfl ?_
  refine ax_iload_n (i := 1) dGo_startWith_1 rfl rfl ?_
  replace hf := bd1_s hf
  obtain ⟨h1, e_h1, hf⟩ := hf
  refine ax_putI fw_223 rfl rfl dGo_startWith_2 e_h1 ?_
  refine ax_aload_n (i := 2) p2 dGo_startWith_5 rfl rfl ?_
  refine ax_iconst (0 : Int32) dGo_startWith_6 k32_0 ?_
  refine ax_aload_n (i := 0) (some o) dGo_startWith_7 rfl rfl ?_
  replace hf := bd1_s hf
  obtain ⟨r2, e_r2, hf⟩ := hf
  refine ax_getR fl_226 rfl dGo_startWith_8 e_r2 ?_
  refine ax_iconst (0 : Int32) dGo_startWith_11 k32_0 ?_
  refine ax_bipush (12 : Int32) dGo_startWith_12 k8_12 ?_
  replace hf := bd1_s hf
  obtain ⟨a3, e_d, hf⟩ := hf
  subst e_d
  replace hf := bd1_s hf
  obtain ⟨a4, e_d, hf⟩ := hf
  subst e_d
  replace hf := bd1_s hf
  obtain ⟨h5, e_h5, hf⟩ := hf
  refine ax_cpI w_760 w_acn w_acs w_sys (Nat.le_trans (Nat.le_of_ble_eq_true rfl) hR1) (Nat.le_trans (Nat.le_of_ble_eq_true rfl) hR2) (Nat.le_of_ble_eq_true rfl) dGo_startWith_14 e_h5 ?_
  refine ax_aload_n (i := 0) (some o) dGo_startWith_17 rfl rfl ?_
  replace hf := bd1_s hf
  obtain ⟨r6, e_r6, hf⟩ := hf
  refine ax_getR fl_228 rfl dGo_startWith_18 e_r6 ?_
  refine ax_iconst (0 : Int32) dGo_startWith_21 k32_0 ?_
  replace hf := bd1_s hf
  obtain ⟨h7, e_h7, hf⟩ := hf
  refine ax_callS (As := [va_rf r6, .int (0 : Int32)]) (rest := []) (c_jA_fill_I e_h7) ml_763 cm_jA_fill_I (Nat.le_trans (Nat.le_of_ble_eq_true rfl) hR1) (Nat.le_trans (Nat.le_of_ble_eq_true rfl) hR2) rfl rfl (Nat.le_of_ble_eq_true rfl) dGo_startWith_22 ?_
  cases hf
  exact Hr _ _ dGo_startWith_25
theorem c_Go_startWith {l : Launch} {E : EN} {h0 : AH} {o : Nat} {p1 : Int32} {p2 : Option Nat} {hF : AH} (hf : f_Go_startWith h0 o p1 p2 = some hF) : AM l E 2 mi_Go_startWith [va_rf (some o), .int p1, va_rf p2] h0 none hF :=
  am_of2 [(va_rf (some o), false), (.int p1, false), (va_rf p2, false)] 0 ⟨cat_rf _, rfl, cat_rf _, trivial⟩ rfl rfl (v_Go_startWith (Nat.le_refl _) (Nat.le_refl _) (fun pc L hd => ax_vret rfl hd rfl) hf)
theorem v_Ro_helperAt {l : Launch} {E : EN} {R : Room} {B : (Nat × Nat) × (Nat × Nat)} {Qf : QF} {h0 : AH} {o : Nat} {p1 : Int32} {r : Option Nat} (hR1 : 1 ≤ R.frames) (hR2 : 64 ≤ R.locals) (Hr : ∀ (pc : Nat) (L : List (Option Value)), decode mi_Ro_helperAt.2.1 pc = .ok (.areturn, 1) → AW l E mi_Ro_helperAt R B Qf pc L [va_rf r] h0) (hf : f_Ro_helperAt h0 o p1 = some r) : AW l E mi_Ro_helperAt R B Qf 0 [some (va_rf (some o)), some (.int p1)] [] h0 := by
  unfold f_Ro_helperAt at hf
  refine ax_aload_n (i := 0) (some o) dRo_helperAt_0 rfl rfl ?_
  replace hf := bd1_s hf
  obtain ⟨r1, e_r1, hf⟩ := hf
  refine ax_getR fl_236 rfl dRo_helperAt_1 e_r1 ?_
  refine ax_aload_n (i := 0) (some o) dRo_helperAt_4 rfl rfl ?_
  replace hf := bd1_s hf
  obtain ⟨r2, e_r2, hf⟩ := hf
  refine ax_getR fl_242 rfl dRo_helperAt_5 e_r2 ?_
  refine ax_iload_n (i := 1) dRo_helperAt_8 rfl rfl ?_
  replace hf := bd1_s hf
  obtain ⟨a3, e_d, hf⟩ := hf
  subst e_d
  replace hf := bd1_s hf
  obtain ⟨x4, e_x4, hf⟩ := hf
  refine ax_iald dRo_helperAt_9 e_x4 ?_
  replace hf := bd1_s hf
  obtain ⟨a5, e_d, hf⟩ := hf
  subst e_d
  replace hf := bd1_s hf
  obtain ⟨r6, e_r6, hf⟩ := hf
  refine ax_aald (c := 4) (by decide) rfl rfl dRo_helperAt_10 e_r6 ?_
  cases hf
  exact Hr _ _ dRo_helperAt_11
theorem c_Ro_helperAt {l : Launch} {E : EN} {h0 : AH} {o : Nat} {p1 : Int32} {r : Option Nat} (hf : f_Ro_helperAt h0 o p1 = some r) : AM l E 1 mi_Ro_helperAt [va_rf (some o), .int p1] h0 (some (va_rf r)) h0 :=
  am_of2 [(va_rf (some o), false), (.int p1, false)] 0 ⟨cat_rf _, rfl, trivial⟩ rfl rfl (v_Ro_helperAt (Nat.le_refl _) (Nat.le_refl _) (fun pc L hd => ax_aret rfl hd rfl) hf)
theorem w_Go_greatestTaint_L4 {l : Launch} {E : EN} {R : Room} {B : (Nat × Nat) × (Nat × Nat)} {Qf : QF} {h0 : AH} {r : Int32} (hR1 : 2 ≤ R.frames) (hR2 : 128 ≤ R.locals) (Hr : ∀ (pc : Nat) (L : List (Option Value)), decode mi_Go_greatestTaint.2.1 pc = .ok (.ireturn, 1) → AW l E mi_Go_greatestTaint R B Qf pc L [.int r] h0) {y0 : Nat} {y1 : Int32} : ∀ (n : Nat) (z2 : Int32) (z3 : Int32), f_Go_greatestTaint_L4 h0 y0 y1 n z2 z3 = some r → AW l E mi_Go_greatestTaint R B Qf 4 [some (va_rf (some y0)), some (.int y1), some (.int z2), some (.int z3)] [] h0 := by
  intro n
  induction n with
  | zero => intro z2 z3 hf; cases hf
  | succ n ih =>
    intro z2 z3 hf
    rw [f_Go_greatestTaint_L4] at hf
    refine ax_iload_n (i := 3) dGo_greatestTaint_4 rfl rfl ?_
    refine ax_bipush (12 : Int32) dGo_greatestTaint_5 k8_12 ?_
    replace hf := ite_c hf
    rcases hf with ⟨hc, hf⟩ | ⟨hc, hf⟩
    · refine ax_icmp_geF 35 dGo_greatestTaint_7 (by decide) hc ?_
      refine ax_iload_n (i := 1) dGo_greatestTaint_10 rfl rfl ?_
      refine ax_iload_n (i := 3) dGo_greatestTaint_11 rfl rfl ?_
      replace hf := bd1_s hf
      obtain ⟨x1, e_x1, hf⟩ := hf
      refine ax_callS (As := [.int y1, .int z3]) (rest := []) (c_C_hasBit e_x1) ml_780 cm_C_hasBit (Nat.le_trans (Nat.le_of_ble_eq_true rfl) hR1) (Nat.le_trans (Nat.le_of_ble_eq_true rfl) hR2) rfl rfl (Nat.le_of_ble_eq_true rfl) dGo_greatestTaint_12 ?_
      replace hf := ite_c hf
      rcases hf with ⟨hc, hf⟩ | ⟨hc, hf⟩
      · refine ax_if_eqT 29 dGo_greatestTaint_15 (by decide) hc ?_
        refine ax_iinc (i := 3) (z3 + (1 : Int32)) [some (va_rf (some y0)), some (.int y1), some (.int z2), some (.int (z3 + (1 : Int32)))] dGo_greatestTaint_29 rfl (iic k32_1) (Or.inr (c1i rfl)) rfl ?_
        refine ax_goto 4 dGo_greatestTaint_32 (by decide) ?_
        exact ih z2 (z3 + (1 : Int32)) hf
      · refine ax_if_eqF 29 dGo_greatestTaint_15 (by decide) hc ?_
        refine ax_iload_n (i := 2) dGo_greatestTaint_18 rfl rfl ?_
        refine ax_aload_n (i := 0) (some y0) dGo_greatestTaint_19 rfl rfl ?_
        replace hf := bd1_s hf
        obtain ⟨r2, e_r2, hf⟩ := hf
        refine ax_getR fl_226 rfl dGo_greatestTaint_20 e_r2 ?_
        refine ax_iload_n (i := 3) dGo_greatestTaint_23 rfl rfl ?_
        replace hf := bd1_s hf
        obtain ⟨a3, e_d, hf⟩ := hf
        subst e_d
        replace hf := bd1_s hf
        obtain ⟨x4, e_x4, hf⟩ := hf
        refine ax_iald dGo_greatestTaint_24 e_x4 ?_
        refine ax_mmax w_781 w_mmax_s w_math w_mmax_c (Nat.le_trans (Nat.le_of_ble_eq_true rfl) hR1) (Nat.le_trans (Nat.le_of_ble_eq_true rfl) hR2) (Nat.le_of_ble_eq_true rfl) dGo_greatestTaint_25 ?_
        replace hf := bd1_s hf
        obtain ⟨x5, e_x5, hf⟩ := hf
        refine ax_nmI (Option.some.inj e_x5) ?_
        refine ax_istore_n (i := 2) [some (va_rf (some y0)), some (.int y1), some (.int x5), some (.int z3)] dGo_greatestTaint_28 rfl (Nat.le_of_ble_eq_true rfl) (Or.inr (c1i rfl)) rfl ?_
        refine ax_iinc (i := 3) (z3 + (1 : Int32)) [some (va_rf (some y0)), some (.int y1), some (.int x5), some (.int (z3 + (1 : Int32)))] dGo_greatestTaint_29 rfl (iic k32_1) (Or.inr (c1i rfl)) rfl ?_
        refine ax_goto 4 dGo_greatestTaint_32 (by decide) ?_
        exact ih x5 (z3 + (1 : Int32)) hf
    · refine ax_icmp_geT 35 dGo_greatestTaint_7 (by decide) hc ?_
      refine ax_iload_n (i := 2) dGo_greatestTaint_35 rfl rfl ?_
      cases hf
      exact Hr _ _ dGo_greatestTaint_36
theorem v_Go_greatestTaint {l : Launch} {E : EN} {R : Room} {B : (Nat × Nat) × (Nat × Nat)} {Qf : QF} {h0 : AH} {o : Nat} {p1 : Int32} {r : Int32} (hR1 : 2 ≤ R.frames) (hR2 : 128 ≤ R.locals) (Hr : ∀ (pc : Nat) (L : List (Option Value)), decode mi_Go_greatestTaint.2.1 pc = .ok (.ireturn, 1) → AW l E mi_Go_greatestTaint R B Qf pc L [.int r] h0) (hf : f_Go_greatestTaint h0 o p1 = some r) : AW l E mi_Go_greatestTaint R B Qf 0 [some (va_rf (some o)), some (.int p1), none, none] [] h0 := by
  unfold f_Go_greatestTaint at hf
  refine ax_iconst (0 : Int32) dGo_greatestTaint_0 k32_0 ?_
  refine ax_istore_n (i := 2) [some (va_rf (some o)), some (.int p1), some (.int (0 : Int32)), none] dGo_greatestTaint_1 rfl (Nat.le_of_ble_eq_true rfl) (Or.inr (c1i rfl)) rfl ?_
  refine ax_iconst (0 : Int32) dGo_greatestTaint_2 k32_0 ?_
  refine ax_istore_n (i := 3) [some (va_rf (some o)), some (.int p1), some (.int (0 : Int32)), some (.int (0 : Int32))] dGo_greatestTaint_3 rfl (Nat.le_of_ble_eq_true rfl) (Or.inr (c1i rfl)) rfl ?_
  refine w_Go_greatestTaint_L4 hR1 hR2 Hr FU (0 : Int32) (0 : Int32) hf
theorem c_Go_greatestTaint {l : Launch} {E : EN} {h0 : AH} {o : Nat} {p1 : Int32} {r : Int32} (hf : f_Go_greatestTaint h0 o p1 = some r) : AM l E 2 mi_Go_greatestTaint [va_rf (some o), .int p1] h0 (some (.int r)) h0 :=
  am_of2 [(va_rf (some o), false), (.int p1, false)] 2 ⟨cat_rf _, rfl, trivial⟩ rfl rfl (v_Go_greatestTaint (Nat.le_refl _) (Nat.le_refl _) (fun pc L hd => ax_iret rfl hd rfl) hf)
theorem v_Go_isTrusted {l : Launch} {E : EN} {R : Room} {B : (Nat × Nat) × (Nat × Nat)} {Qf : QF} {h0 : AH} {o : Nat} {p1 : Option Nat} {r : Int32} (hR1 : 3 ≤ R.frames) (hR2 : 192 ≤ R.locals) (Hr : (r = 0 ∨ r = 1) → ∀ (pc : Nat) (L : List (Option Value)), decode mi_Go_isTrusted.2.1 pc = .ok (.ireturn, 1) → AW l E mi_Go_isTrusted R B Qf pc L [.int r] h0) (hf : f_Go_isTrusted h0 o p1 = some r) : AW l E mi_Go_isTrusted R B Qf 0 [some (va_rf (some o)), some (va_rf p1), none] [] h0 := by
  unfold f_Go_isTrusted at hf
  refine ax_aload_n (i := 1) p1 dGo_isTrusted_0 rfl rfl ?_
  replace hf := bd1_s hf
  obtain ⟨a1, e_d, hf⟩ := hf
  subst e_d
  replace hf := bd1_s hf
  obtain ⟨r2, e_r2, hf⟩ := hf
  refine ax_getR fl_703 rfl dGo_isTrusted_1 e_r2 ?_
  refine ax_iconst (5 : Int32) dGo_isTrusted_4 k32_5 ?_
  replace hf := bd1_s hf
  obtain ⟨a3, e_d, hf⟩ := hf
  subst e_d
  replace hf := bd1_s hf
  obtain ⟨x4, e_x4, hf⟩ := hf
  refine ax_iald dGo_isTrusted_5 e_x4 ?_
  refine ax_istore_n (i := 2) [some (va_rf (some o)), some (va_rf (some a1)), some (.int x4)] dGo_isTrusted_6 rfl (Nat.le_of_ble_eq_true rfl) (Or.inr (c1r rfl)) rfl ?_
  refine ax_iload_n (i := 2) dGo_isTrusted_7 rfl rfl ?_
  refine ax_aload_n (i := 0) (some o) dGo_isTrusted_8 rfl rfl ?_
  replace hf := bd1_s hf
  obtain ⟨x5, e_x5, hf⟩ := hf
  refine ax_getI fl_223 rfl dGo_isTrusted_9 e_x5 ?_
  refine ax_iconst (-1 : Int32) dGo_isTrusted_12 k32_m1 ?_
  refine ax_ixor dGo_isTrusted_13 ?_
  refine ax_iand dGo_isTrusted_14 ?_
  replace hf := ite_c hf
  rcases hf with ⟨hc, hf⟩ | ⟨hc, hf⟩
  · refine ax_if_neF 36 dGo_isTrusted_15 (by decide) hc ?_
    refine ax_aload_n (i := 0) (some o) dGo_isTrusted_18 rfl rfl ?_
    refine ax_iload_n (i := 2) dGo_isTrusted_19 rfl rfl ?_
    replace hf := bd1_s hf
    obtain ⟨x6, e_x6, hf⟩ := hf
    obtain ⟨k_e_x6, e_x6⟩ := cv_s e_x6
    refine ax_callV (As := [.int x4]) (rest := []) (c_Go_greatestTaint e_x6) ml_776 cm_Go_greatestTaint rfl k_e_x6 (Nat.le_trans (Nat.le_of_ble_eq_true rfl) hR1) (Nat.le_trans (Nat.le_of_ble_eq_true rfl) hR2) rfl rfl (Nat.le_of_ble_eq_true rfl) dGo_isTrusted_20 ?_
    refine ax_aload_n (i := 1) (some a1) dGo_isTrusted_23 rfl rfl ?_
    replace hf := bd1_s hf
    obtain ⟨r7, e_r7, hf⟩ := hf
    refine ax_getR fl_703 rfl dGo_isTrusted_24 e_r7 ?_
    refine ax_iconst (3 : Int32) dGo_isTrusted_27 k32_3 ?_
    replace hf := bd1_s hf
    obtain ⟨a8, e_d, hf⟩ := hf
    subst e_d
    replace hf := bd1_s hf
    obtain ⟨x9, e_x9, hf⟩ := hf
    refine ax_iald dGo_isTrusted_28 e_x9 ?_
    replace hf := ite_c hf
    rcases hf with ⟨hc, hf⟩ | ⟨hc, hf⟩
    · refine ax_icmp_gtT 36 dGo_isTrusted_29 (by decide) hc ?_
      refine ax_iconst (0 : Int32) dGo_isTrusted_36 k32_0 ?_
      cases hf
      exact Hr (Or.inl rfl) _ _ dGo_isTrusted_37
    · refine ax_icmp_gtF 36 dGo_isTrusted_29 (by decide) hc ?_
      refine ax_iconst (1 : Int32) dGo_isTrusted_32 k32_1 ?_
      refine ax_goto 37 dGo_isTrusted_33 (by decide) ?_
      cases hf
      exact Hr (Or.inr rfl) _ _ dGo_isTrusted_37
  · refine ax_if_neT 36 dGo_isTrusted_15 (by decide) hc ?_
    refine ax_iconst (0 : Int32) dGo_isTrusted_36 k32_0 ?_
    cases hf
    exact Hr (Or.inl rfl) _ _ dGo_isTrusted_37
theorem c_Go_isTrusted {l : Launch} {E : EN} {h0 : AH} {o : Nat} {p1 : Option Nat} {r : Int32} (hf : f_Go_isTrusted h0 o p1 = some r) : AM l E 3 mi_Go_isTrusted [va_rf (some o), va_rf p1] h0 (some (.int r)) h0 :=
  am_of2 [(va_rf (some o), false), (va_rf p1, false)] 1 ⟨cat_rf _, cat_rf _, trivial⟩ rfl rfl (v_Go_isTrusted (Nat.le_refl _) (Nat.le_refl _) (fun hz pc L hd => ax_zret rfl hz hd rfl) hf)
theorem v_Go_may {l : Launch} {E : EN} {R : Room} {B : (Nat × Nat) × (Nat × Nat)} {Qf : QF} {h0 : AH} {o : Nat} {p1 : Option Nat} {p2 : Int32} {r : Int32} (hR1 : 4 ≤ R.frames) (hR2 : 256 ≤ R.locals) (Hr : (r = 0 ∨ r = 1) → ∀ (pc : Nat) (L : List (Option Value)), decode mi_Go_may.2.1 pc = .ok (.ireturn, 1) → AW l E mi_Go_may R B Qf pc L [.int r] h0) (hf : f_Go_may h0 o p1 p2 = some r) : AW l E mi_Go_may R B Qf 0 [some (va_rf (some o)), some (va_rf p1), some (.int p2)] [] h0 := by
  unfold f_Go_may at hf
  refine ax_aload_n (i := 0) (some o) dGo_may_0 rfl rfl ?_
  replace hf := bd1_s hf
  obtain ⟨r1, e_r1, hf⟩ := hf
  refine ax_getR fl_228 rfl dGo_may_1 e_r1 ?_
  refine ax_iload_n (i := 2) dGo_may_4 rfl rfl ?_
  replace hf := bd1_s hf
  obtain ⟨a2, e_d, hf⟩ := hf
  subst e_d
  replace hf := bd1_s hf
  obtain ⟨x3, e_x3, hf⟩ := hf
  refine ax_iald dGo_may_5 e_x3 ?_
  refine ax_aload_n (i := 1) p1 dGo_may_6 rfl rfl ?_
  replace hf := bd1_s hf
  obtain ⟨a4, e_d, hf⟩ := hf
  subst e_d
  replace hf := bd1_s hf
  obtain ⟨r5, e_r5, hf⟩ := hf
  refine ax_getR fl_703 rfl dGo_may_7 e_r5 ?_
  refine ax_iconst (2 : Int32) dGo_may_10 k32_2 ?_
  replace hf := bd1_s hf
  obtain ⟨a6, e_d, hf⟩ := hf
  subst e_d
  replace hf := bd1_s hf
  obtain ⟨x7, e_x7, hf⟩ := hf
  refine ax_iald dGo_may_11 e_x7 ?_
  replace hf := ite_c hf
  rcases hf with ⟨hc, hf⟩ | ⟨hc, hf⟩
  · refine ax_icmp_geF 27 dGo_may_12 (by decide) hc ?_
    refine ax_aload_n (i := 0) (some o) dGo_may_15 rfl rfl ?_
    refine ax_aload_n (i := 1) (some a4) dGo_may_16 rfl rfl ?_
    replace hf := bd1_s hf
    obtain ⟨x8, e_x8, hf⟩ := hf
    obtain ⟨k_e_x8, e_x8⟩ := cv_s e_x8
    refine ax_callV (As := [va_rf (some a4)]) (rest := []) (c_Go_isTrusted e_x8) ml_772 cm_Go_isTrusted rfl k_e_x8 (Nat.le_trans (Nat.le_of_ble_eq_true rfl) hR1) (Nat.le_trans (Nat.le_of_ble_eq_true rfl) hR2) rfl rfl (Nat.le_of_ble_eq_true rfl) dGo_may_17 ?_
    replace hf := ite_c hf
    rcases hf with ⟨hc, hf⟩ | ⟨hc, hf⟩
    · refine ax_if_eqT 27 dGo_may_20 (by decide) hc ?_
      refine ax_iconst (0 : Int32) dGo_may_27 k32_0 ?_
      cases hf
      exact Hr (Or.inl rfl) _ _ dGo_may_28
    · refine ax_if_eqF 27 dGo_may_20 (by decide) hc ?_
      refine ax_iconst (1 : Int32) dGo_may_23 k32_1 ?_
      refine ax_goto 28 dGo_may_24 (by decide) ?_
      cases hf
      exact Hr (Or.inr rfl) _ _ dGo_may_28
  · refine ax_icmp_geT 27 dGo_may_12 (by decide) hc ?_
    refine ax_iconst (0 : Int32) dGo_may_27 k32_0 ?_
    cases hf
    exact Hr (Or.inl rfl) _ _ dGo_may_28
theorem c_Go_may {l : Launch} {E : EN} {h0 : AH} {o : Nat} {p1 : Option Nat} {p2 : Int32} {r : Int32} (hf : f_Go_may h0 o p1 p2 = some r) : AM l E 4 mi_Go_may [va_rf (some o), va_rf p1, .int p2] h0 (some (.int r)) h0 :=
  am_of2 [(va_rf (some o), false), (va_rf p1, false), (.int p2, false)] 0 ⟨cat_rf _, cat_rf _, rfl, trivial⟩ rfl rfl (v_Go_may (Nat.le_refl _) (Nat.le_refl _) (fun hz pc L hd => ax_zret rfl hz hd rfl) hf)
theorem v_Go_become {l : Launch} {E : EN} {R : Room} {B : (Nat × Nat) × (Nat × Nat)} {Qf : QF} {h0 : AH} {o : Nat} {p1 : Option Nat} {hF : AH} (hR1 : 1 ≤ R.frames) (hR2 : 64 ≤ R.locals) (Hr : ∀ (pc : Nat) (L : List (Option Value)), decode mi_Go_become.2.1 pc = .ok (.return_, 1) → AW l E mi_Go_become R B Qf pc L [] hF) (hf : f_Go_become h0 o p1 = some hF) : AW l E mi_Go_become R B Qf 0 [some (va_rf (some o)), some (va_rf p1)] [] h0 := by
  unfold f_Go_become at hf
  refine ax_aload_n (i := 0) (some o) dGo_become_0 rfl rfl ?_
  refine ax_aload_n (i := 1) p1 dGo_become_1 rfl rfl ?_
  replace hf := bd1_s hf
  obtain ⟨a1, e_d, hf⟩ := hf
  subst e_d
  replace hf := bd1_s hf
  obtain ⟨x2, e_x2, hf⟩ := hf
  refine ax_getI fl_223 rfl dGo_become_2 e_x2 ?_
  replace hf := bd1_s hf
  obtain ⟨h3, e_h3, hf⟩ := hf
  refine ax_putI fw_223 rfl rfl dGo_become_5 e_h3 ?_
  refine ax_aload_n (i := 1) (some a1) dGo_become_8 rfl rfl ?_
  replace hf := bd1_s hf
  obtain ⟨r4, e_r4, hf⟩ := hf
  refine ax_getR fl_226 rfl dGo_become_9 e_r4 ?_
  refine ax_iconst (0 : Int32) dGo_become_12 k32_0 ?_
  refine ax_aload_n (i := 0) (some o) dGo_become_13 rfl rfl ?_
  replace hf := bd1_s hf
  obtain ⟨r5, e_r5, hf⟩ := hf
  refine ax_getR fl_226 rfl dGo_become_14 e_r5 ?_
  refine ax_iconst (0 : Int32) dGo_become_17 k32_0 ?_
  refine ax_bipush (12 : Int32) dGo_become_18 k8_12 ?_
  replace hf := bd1_s hf
  obtain ⟨a6, e_d, hf⟩ := hf
  subst e_d
  replace hf := bd1_s hf
  obtain ⟨a7, e_d, hf⟩ := hf
  subst e_d
  replace hf := bd1_s hf
  obtain ⟨h8, e_h8, hf⟩ := hf
  refine ax_cpI w_760 w_acn w_acs w_sys (Nat.le_trans (Nat.le_of_ble_eq_true rfl) hR1) (Nat.le_trans (Nat.le_of_ble_eq_true rfl) hR2) (Nat.le_of_ble_eq_true rfl) dGo_become_20 e_h8 ?_
  refine ax_aload_n (i := 1) (some a1) dGo_become_23 rfl rfl ?_
  replace hf := bd1_s hf
  obtain ⟨r9, e_r9, hf⟩ := hf
  refine ax_getR fl_228 rfl dGo_become_24 e_r9 ?_
  refine ax_iconst (0 : Int32) dGo_become_27 k32_0 ?_
  refine ax_aload_n (i := 0) (some o) dGo_become_28 rfl rfl ?_
  replace hf := bd1_s hf
  obtain ⟨r10, e_r10, hf⟩ := hf
  refine ax_getR fl_228 rfl dGo_become_29 e_r10 ?_
  refine ax_iconst (0 : Int32) dGo_become_32 k32_0 ?_
  refine ax_bipush (8 : Int32) dGo_become_33 k8_8 ?_
  replace hf := bd1_s hf
  obtain ⟨a11, e_d, hf⟩ := hf
  subst e_d
  replace hf := bd1_s hf
  obtain ⟨a12, e_d, hf⟩ := hf
  subst e_d
  replace hf := bd1_s hf
  obtain ⟨h13, e_h13, hf⟩ := hf
  refine ax_cpI w_760 w_acn w_acs w_sys (Nat.le_trans (Nat.le_of_ble_eq_true rfl) hR1) (Nat.le_trans (Nat.le_of_ble_eq_true rfl) hR2) (Nat.le_of_ble_eq_true rfl) dGo_become_35 e_h13 ?_
  cases hf
  exact Hr _ _ dGo_become_38
theorem c_Go_become {l : Launch} {E : EN} {h0 : AH} {o : Nat} {p1 : Option Nat} {hF : AH} (hf : f_Go_become h0 o p1 = some hF) : AM l E 1 mi_Go_become [va_rf (some o), va_rf p1] h0 none hF :=
  am_of2 [(va_rf (some o), false), (va_rf p1, false)] 0 ⟨cat_rf _, cat_rf _, trivial⟩ rfl rfl (v_Go_become (Nat.le_refl _) (Nat.le_refl _) (fun pc L hd => ax_vret rfl hd rfl) hf)
theorem w_Go_go_L45 {l : Launch} {E : EN} {R : Room} {B : (Nat × Nat) × (Nat × Nat)} {Qf : QF} {ρ : Type} {res : ρ} (hR1 : 3 ≤ R.frames) (hR2 : 192 ≤ R.locals) {y0 : Nat} {y2 : Int32} {y3 : Option Nat} {y4 : Int32} {y5 : Int32} {k : AH → Option (ρ)} (hk : ∀ (h : AH), k h = some res → AW l E mi_Go_go R B Qf 84 [some (va_rf (some y0)), none, some (.int y2), none, none, none, none] [] h) : ∀ (n : Nat) (z6 : Int32) (h : AH), f_Go_go_L45 y0 y2 y3 y4 y5 k n z6 h = some res → AW l E mi_Go_go R B Qf 45 [some (va_rf (some y0)), none, some (.int y2), some (va_rf y3), some (.int y4), some (.int y5), some (.int z6)] [] h := by
  intro n
  induction n with
  | zero => intro z6 h hf; cases hf
  | succ n ih =>
    intro z6 h hf
    rw [f_Go_go_L45] at hf
    refine ax_iload (i := 6) dGo_go_45 rfl ?_
    refine ax_bipush (12 : Int32) dGo_go_47 k8_12 ?_
    replace hf := ite_c hf
    rcases hf with ⟨hc, hf⟩ | ⟨hc, hf⟩
    · refine ax_icmp_geF 84 dGo_go_49 (by decide) hc ?_
      refine ax_iload (i := 5) dGo_go_52 rfl ?_
      refine ax_iload (i := 6) dGo_go_54 rfl ?_
      replace hf := bd1_s hf
      obtain ⟨x14, e_x14, hf⟩ := hf
      refine ax_callS (As := [.int y5, .int z6]) (rest := []) (c_C_hasBit e_x14) ml_780 cm_C_hasBit (Nat.le_trans (Nat.le_of_ble_eq_true rfl) hR1) (Nat.le_trans (Nat.le_of_ble_eq_true rfl) hR2) rfl rfl (Nat.le_of_ble_eq_true rfl) dGo_go_56 ?_
      replace hf := ite_c hf
      rcases hf with ⟨hc, hf⟩ | ⟨hc, hf⟩
      · refine ax_if_eqT 78 dGo_go_59 (by decide) hc ?_
        refine ax_iinc (i := 6) (z6 + (1 : Int32)) [some (va_rf (some y0)), none, some (.int y2), some (va_rf y3), some (.int y4), some (.int y5), some (.int (z6 + (1 : Int32)))] dGo_go_78 rfl (iic k32_1) (Or.inr (c1i rfl)) rfl ?_
        refine ax_goto 45 dGo_go_81 (by decide) ?_
        exact ih (z6 + (1 : Int32)) h hf
      · refine ax_if_eqF 78 dGo_go_59 (by decide) hc ?_
        refine ax_aload_n (i := 0) (some y0) dGo_go_62 rfl rfl ?_
        replace hf := bd1_s hf
        obtain ⟨r15, e_r15, hf⟩ := hf
        refine ax_getR fl_226 rfl dGo_go_63 e_r15 ?_
        refine ax_iload (i := 6) dGo_go_66 rfl ?_
        refine ax_aload_n (i := 3) y3 dGo_go_68 rfl rfl ?_
        refine ax_iload (i := 6) dGo_go_69 rfl ?_
        replace hf := bd1_s hf
        obtain ⟨a16, e_d, hf⟩ := hf
        subst e_d
        replace hf := bd1_s hf
        obtain ⟨x17, e_x17, hf⟩ := hf
        refine ax_iald dGo_go_71 e_x17 ?_
        refine ax_iload (i := 4) dGo_go_72 rfl ?_
        refine ax_mmax w_781 w_mmax_s w_math w_mmax_c (Nat.le_trans (Nat.le_of_ble_eq_true rfl) hR1) (Nat.le_trans (Nat.le_of_ble_eq_true rfl) hR2) (by simp only [List.map_cons, List.map_nil, List.sum_cons, List.sum_nil, cat_rf]; exact Nat.le_of_ble_eq_true rfl) dGo_go_74 ?_
        replace hf := bd1_s hf
        obtain ⟨a18, e_d, hf⟩ := hf
        subst e_d
        replace hf := bd1_s hf
        obtain ⟨h19, e_h19, hf⟩ := hf
        refine ax_iast dGo_go_77 e_h19 ?_
        refine ax_iinc (i := 6) (z6 + (1 : Int32)) [some (va_rf (some y0)), none, some (.int y2), some (va_rf (some a16)), some (.int y4), some (.int y5), some (.int (z6 + (1 : Int32)))] dGo_go_78 rfl (iic k32_1) (Or.inr (c1i rfl)) rfl ?_
        refine ax_goto 45 dGo_go_81 (by decide) ?_
        exact ih (z6 + (1 : Int32)) h19 hf
    · refine ax_icmp_geT 84 dGo_go_49 (by decide) hc ?_
      refine ax_mask [true, true, true, false, false, false, false] rfl [some (va_rf (some y0)), none, some (.int y2), none, none, none, none] rfl ?_
      exact hk h hf
theorem v_Go_go {l : Launch} {E : EN} {R : Room} {B : (Nat × Nat) × (Nat × Nat)} {Qf : QF} {h0 : AH} {o : Nat} {p1 : Option Nat} {p2 : Int32} {p3 : Option Nat} {hF : AH} (hR1 : 3 ≤ R.frames) (hR2 : 192 ≤ R.locals) (Hr : ∀ (pc : Nat) (L : List (Option Value)), decode mi_Go_go.2.1 pc = .ok (.return_, 1) → AW l E mi_Go_go R B Qf pc L [] hF) (hf : f_Go_go h0 o p1 p2 p3 = some hF) : AW l E mi_Go_go R B Qf 0 [some (va_rf (some o)), some (va_rf p1), some (.int p2), some (va_rf p3), none, none, none] [] h0 := by
  unfold f_Go_go at hf
  refine ax_aload_n (i := 0) (some o) dGo_go_0 rfl rfl ?_
  refine ax_aload_n (i := 1) p1 dGo_go_1 rfl rfl ?_
  replace hf := bd1_s hf
  obtain ⟨a1, e_d, hf⟩ := hf
  subst e_d
  replace hf := bd1_s hf
  obtain ⟨r2, e_r2, hf⟩ := hf
  refine ax_getR fl_703 rfl dGo_go_2 e_r2 ?_
  refine ax_iconst (5 : Int32) dGo_go_5 k32_5 ?_
  replace hf := bd1_s hf
  obtain ⟨a3, e_d, hf⟩ := hf
  subst e_d
  replace hf := bd1_s hf
  obtain ⟨x4, e_x4, hf⟩ := hf
  refine ax_iald dGo_go_6 e_x4 ?_
  replace hf := bd1_s hf
  obtain ⟨x5, e_x5, hf⟩ := hf
  obtain ⟨k_e_x5, e_x5⟩ := cv_s e_x5
  refine ax_callV (As := [.int x4]) (rest := []) (c_Go_greatestTaint e_x5) ml_776 cm_Go_greatestTaint rfl k_e_x5 (Nat.le_trans (Nat.le_of_ble_eq_true rfl) hR1) (Nat.le_trans (Nat.le_of_ble_eq_true rfl) hR2) rfl rfl (Nat.le_of_ble_eq_true rfl) dGo_go_7 ?_
  refine ax_istore (i := 4) [some (va_rf (some o)), some (va_rf (some a1)), some (.int p2), some (va_rf p3), some (.int x5), none, none] dGo_go_10 (Nat.le_of_ble_eq_true rfl) (Or.inr (c1r rfl)) rfl ?_
  refine ax_aload_n (i := 1) (some a1) dGo_go_12 rfl rfl ?_
  replace hf := bd1_s hf
  obtain ⟨r6, e_r6, hf⟩ := hf
  refine ax_getR fl_703 rfl dGo_go_13 e_r6 ?_
  refine ax_bipush (6 : Int32) dGo_go_16 k8_6 ?_
  replace hf := bd1_s hf
  obtain ⟨a7, e_d, hf⟩ := hf
  subst e_d
  replace hf := bd1_s hf
  obtain ⟨x8, e_x8, hf⟩ := hf
  refine ax_iald dGo_go_18 e_x8 ?_
  refine ax_istore (i := 5) [some (va_rf (some o)), some (va_rf (some a1)), some (.int p2), some (va_rf p3), some (.int x5), some (.int x8), none] dGo_go_19 (Nat.le_of_ble_eq_true rfl) (Or.inr (c1i rfl)) rfl ?_
  refine ax_aload_n (i := 0) (some o) dGo_go_21 rfl rfl ?_
  refine ax_aload_n (i := 0) (some o) dGo_go_22 rfl rfl ?_
  replace hf := bd1_s hf
  obtain ⟨x9, e_x9, hf⟩ := hf
  refine ax_getI fl_223 rfl dGo_go_23 e_x9 ?_
  refine ax_aload_n (i := 1) (some a1) dGo_go_26 rfl rfl ?_
  replace hf := bd1_s hf
  obtain ⟨r10, e_r10, hf⟩ := hf
  refine ax_getR fl_703 rfl dGo_go_27 e_r10 ?_
  refine ax_bipush (7 : Int32) dGo_go_30 k8_7 ?_
  replace hf := bd1_s hf
  obtain ⟨a11, e_d, hf⟩ := hf
  subst e_d
  replace hf := bd1_s hf
  obtain ⟨x12, e_x12, hf⟩ := hf
  refine ax_iald dGo_go_32 e_x12 ?_
  refine ax_iconst (-1 : Int32) dGo_go_33 k32_m1 ?_
  refine ax_ixor dGo_go_34 ?_
  refine ax_iand dGo_go_35 ?_
  refine ax_iload (i := 5) dGo_go_36 rfl ?_
  refine ax_ior dGo_go_38 ?_
  replace hf := bd1_s hf
  obtain ⟨h13, e_h13, hf⟩ := hf
  refine ax_putI fw_223 rfl rfl dGo_go_39 e_h13 ?_
  refine ax_iconst (0 : Int32) dGo_go_42 k32_0 ?_
  refine ax_istore (i := 6) [some (va_rf (some o)), some (va_rf (some a1)), some (.int p2), some (va_rf p3), some (.int x5), some (.int x8), some (.int (0 : Int32))] dGo_go_43 (Nat.le_of_ble_eq_true rfl) (Or.inr (c1i rfl)) rfl ?_
  refine ax_mask [true, false, true, true, true, true, true] rfl [some (va_rf (some o)), none, some (.int p2), some (va_rf p3), some (.int x5), some (.int x8), some (.int (0 : Int32))] rfl ?_
  refine w_Go_go_L45 hR1 hR2 (fun h20 hf => ?_) FU (0 : Int32) h13 hf
  refine ax_aload_n (i := 0) (some o) dGo_go_84 rfl rfl ?_
  replace hf := bd1_s hf
  obtain ⟨r21, e_r21, hf⟩ := hf
  refine ax_getR fl_228 rfl dGo_go_85 e_r21 ?_
  refine ax_iload_n (i := 2) dGo_go_88 rfl rfl ?_
  refine ax_dup2 dGo_go_89 rfl (cat_rf _) ?_
  replace hf := bd1_s hf
  obtain ⟨a22, e_d, hf⟩ := hf
  subst e_d
  replace hf := bd1_s hf
  obtain ⟨x23, e_x23, hf⟩ := hf
  refine ax_iald dGo_go_90 e_x23 ?_
  refine ax_iconst (1 : Int32) dGo_go_91 k32_1 ?_
  refine ax_iadd dGo_go_92 ?_
  replace hf := bd1_s hf
  obtain ⟨h24, e_h24, hf⟩ := hf
  refine ax_iast dGo_go_93 e_h24 ?_
  cases hf
  exact Hr _ _ dGo_go_94
theorem c_Go_go {l : Launch} {E : EN} {h0 : AH} {o : Nat} {p1 : Option Nat} {p2 : Int32} {p3 : Option Nat} {hF : AH} (hf : f_Go_go h0 o p1 p2 p3 = some hF) : AM l E 3 mi_Go_go [va_rf (some o), va_rf p1, .int p2, va_rf p3] h0 none hF :=
  am_of2 [(va_rf (some o), false), (va_rf p1, false), (.int p2, false), (va_rf p3, false)] 3 ⟨cat_rf _, cat_rf _, rfl, cat_rf _, trivial⟩ rfl rfl (v_Go_go (Nat.le_refl _) (Nat.le_refl _) (fun pc L hd => ax_vret rfl hd rfl) hf)
theorem v_Ro_goOn {l : Launch} {E : EN} {R : Room} {B : (Nat × Nat) × (Nat × Nat)} {Qf : QF} {h0 : AH} {o : Nat} {p1 : Int32} {p2 : Int32} {hF : AH} (hR1 : 4 ≤ R.frames) (hR2 : 256 ≤ R.locals) (Hr : ∀ (pc : Nat) (L : List (Option Value)), decode mi_Ro_goOn.2.1 pc = .ok (.return_, 1) → AW l E mi_Ro_goOn R B Qf pc L [] hF) (hf : f_Ro_goOn h0 o p1 p2 = some hF) : AW l E mi_Ro_goOn R B Qf 0 [some (va_rf (some o)), some (.int p1), some (.int p2)] [] h0 := by
  unfold f_Ro_goOn at hf
  refine ax_aload_n (i := 0) (some o) dRo_goOn_0 rfl rfl ?_
  replace hf := bd1_s hf
  obtain ⟨r1, e_r1, hf⟩ := hf
  refine ax_getR fl_246 rfl dRo_goOn_1 e_r1 ?_
  refine ax_iload_n (i := 1) dRo_goOn_4 rfl rfl ?_
  refine ax_iconst (1 : Int32) dRo_goOn_5 k32_1 ?_
  refine ax_iadd dRo_goOn_6 ?_
  replace hf := bd1_s hf
  obtain ⟨a2, e_d, hf⟩ := hf
  subst e_d
  replace hf := bd1_s hf
  obtain ⟨r3, e_r3, hf⟩ := hf
  refine ax_aald (c := 3) (by decide) rfl rfl dRo_goOn_7 e_r3 ?_
  refine ax_aload_n (i := 0) (some o) dRo_goOn_8 rfl rfl ?_
  replace hf := bd1_s hf
  obtain ⟨r4, e_r4, hf⟩ := hf
  refine ax_getR fl_246 rfl dRo_goOn_9 e_r4 ?_
  refine ax_iload_n (i := 1) dRo_goOn_12 rfl rfl ?_
  replace hf := bd1_s hf
  obtain ⟨a5, e_d, hf⟩ := hf
  subst e_d
  replace hf := bd1_s hf
  obtain ⟨r6, e_r6, hf⟩ := hf
  refine ax_aald (c := 3) (by decide) rfl rfl dRo_goOn_13 e_r6 ?_
  replace hf := bd1_s hf
  obtain ⟨a7, e_d, hf⟩ := hf
  subst e_d
  replace hf := bd1_s hf
  obtain ⟨h8, e_h8, hf⟩ := hf
  obtain ⟨k_e_h8, e_h8⟩ := cv_s e_h8
  refine ax_callV (As := [va_rf r6]) (rest := []) (c_Go_become e_h8) ml_786 cm_Go_become rfl k_e_h8 (Nat.le_trans (Nat.le_of_ble_eq_true rfl) hR1) (Nat.le_trans (Nat.le_of_ble_eq_true rfl) hR2) rfl rfl (Nat.le_of_ble_eq_true rfl) dRo_goOn_14 ?_
  refine ax_aload_n (i := 0) (some o) dRo_goOn_17 rfl rfl ?_
  replace hf := bd1_s hf
  obtain ⟨r9, e_r9, hf⟩ := hf
  refine ax_getR fl_246 rfl dRo_goOn_18 e_r9 ?_
  refine ax_iload_n (i := 1) dRo_goOn_21 rfl rfl ?_
  refine ax_iconst (1 : Int32) dRo_goOn_22 k32_1 ?_
  refine ax_iadd dRo_goOn_23 ?_
  replace hf := bd1_s hf
  obtain ⟨a10, e_d, hf⟩ := hf
  subst e_d
  replace hf := bd1_s hf
  obtain ⟨r11, e_r11, hf⟩ := hf
  refine ax_aald (c := 3) (by decide) rfl rfl dRo_goOn_24 e_r11 ?_
  refine ax_aload_n (i := 0) (some o) dRo_goOn_25 rfl rfl ?_
  replace hf := bd1_s hf
  obtain ⟨r12, e_r12, hf⟩ := hf
  refine ax_getR fl_236 rfl dRo_goOn_26 e_r12 ?_
  refine ax_iload_n (i := 2) dRo_goOn_29 rfl rfl ?_
  replace hf := bd1_s hf
  obtain ⟨a13, e_d, hf⟩ := hf
  subst e_d
  replace hf := bd1_s hf
  obtain ⟨r14, e_r14, hf⟩ := hf
  refine ax_aald (c := 4) (by decide) rfl rfl dRo_goOn_30 e_r14 ?_
  refine ax_iload_n (i := 2) dRo_goOn_31 rfl rfl ?_
  refine ax_aload_n (i := 0) (some o) dRo_goOn_32 rfl rfl ?_
  replace hf := bd1_s hf
  obtain ⟨r15, e_r15, hf⟩ := hf
  refine ax_getR fl_240 rfl dRo_goOn_33 e_r15 ?_
  replace hf := bd1_s hf
  obtain ⟨a16, e_d, hf⟩ := hf
  subst e_d
  replace hf := bd1_s hf
  obtain ⟨h17, e_h17, hf⟩ := hf
  obtain ⟨k_e_h17, e_h17⟩ := cv_s e_h17
  refine ax_callV (As := [va_rf r14, .int p2, va_rf r15]) (rest := []) (c_Go_go e_h17) ml_790 cm_Go_go rfl k_e_h17 (Nat.le_trans (Nat.le_of_ble_eq_true rfl) hR1) (Nat.le_trans (Nat.le_of_ble_eq_true rfl) hR2) rfl rfl (Nat.le_of_ble_eq_true rfl) dRo_goOn_36 ?_
  cases hf
  exact Hr _ _ dRo_goOn_39
theorem c_Ro_goOn {l : Launch} {E : EN} {h0 : AH} {o : Nat} {p1 : Int32} {p2 : Int32} {hF : AH} (hf : f_Ro_goOn h0 o p1 p2 = some hF) : AM l E 4 mi_Ro_goOn [va_rf (some o), .int p1, .int p2] h0 none hF :=
  am_of2 [(va_rf (some o), false), (.int p1, false), (.int p2, false)] 0 ⟨cat_rf _, rfl, rfl, trivial⟩ rfl rfl (v_Ro_goOn (Nat.le_refl _) (Nat.le_refl _) (fun pc L hd => ax_vret rfl hd rfl) hf)
theorem w_Ro_firstStop_L16 {l : Launch} {E : EN} {R : Room} {B : (Nat × Nat) × (Nat × Nat)} {Qf : QF} {r : Int32} {hF : AH} (hR1 : 5 ≤ R.frames) (hR2 : 320 ≤ R.locals) (Hr : ∀ (pc : Nat) (L : List (Option Value)), decode mi_Ro_firstStop.2.1 pc = .ok (.ireturn, 1) → AW l E mi_Ro_firstStop R B Qf pc L [.int r] hF) {y0 : Nat} : ∀ (n : Nat) (z2 : Int32) (h : AH), f_Ro_firstStop_L16 y0 n z2 h = some (r, hF) → AW l E mi_Ro_firstStop R B Qf 16 [some (va_rf (some y0)), none, some (.int z2)] [] h := by
  intro n
  induction n with
  | zero => intro z2 h hf; cases hf
  | succ n ih =>
    intro z2 h hf
    rw [f_Ro_firstStop_L16] at hf
    refine ax_iload_n (i := 2) dRo_firstStop_16 rfl rfl ?_
    refine ax_aload_n (i := 0) (some y0) dRo_firstStop_17 rfl rfl ?_
    replace hf := bd1_s hf
    obtain ⟨x7, e_x7, hf⟩ := hf
    refine ax_getI fl_244 rfl dRo_firstStop_18 e_x7 ?_
    replace hf := ite_c hf
    rcases hf with ⟨hc, hf⟩ | ⟨hc, hf⟩
    · refine ax_icmp_geF 66 dRo_firstStop_21 (by decide) hc ?_
      refine ax_aload_n (i := 0) (some y0) dRo_firstStop_24 rfl rfl ?_
      replace hf := bd1_s hf
      obtain ⟨r8, e_r8, hf⟩ := hf
      refine ax_getR fl_246 rfl dRo_firstStop_25 e_r8 ?_
      refine ax_iload_n (i := 2) dRo_firstStop_28 rfl rfl ?_
      replace hf := bd1_s hf
      obtain ⟨a9, e_d, hf⟩ := hf
      subst e_d
      replace hf := bd1_s hf
      obtain ⟨r10, e_r10, hf⟩ := hf
      refine ax_aald (c := 3) (by decide) rfl rfl dRo_firstStop_29 e_r10 ?_
      refine ax_aload_n (i := 0) (some y0) dRo_firstStop_30 rfl rfl ?_
      refine ax_iload_n (i := 2) dRo_firstStop_31 rfl rfl ?_
      replace hf := bd1_s hf
      obtain ⟨r11, e_r11, hf⟩ := hf
      obtain ⟨k_e_r11, e_r11⟩ := cv_s e_r11
      refine ax_callV (As := [.int z2]) (rest := [va_rf r10]) (c_Ro_helperAt e_r11) ml_764 cm_Ro_helperAt rfl k_e_r11 (Nat.le_trans (Nat.le_of_ble_eq_true rfl) hR1) (Nat.le_trans (Nat.le_of_ble_eq_true rfl) hR2) rfl rfl (by simp only [List.map_cons, List.map_nil, List.sum_cons, List.sum_nil, cat_rf]; exact Nat.le_of_ble_eq_true rfl) dRo_firstStop_32 ?_
      refine ax_aload_n (i := 0) (some y0) dRo_firstStop_35 rfl rfl ?_
      replace hf := bd1_s hf
      obtain ⟨r12, e_r12, hf⟩ := hf
      refine ax_getR fl_242 rfl dRo_firstStop_36 e_r12 ?_
      refine ax_iload_n (i := 2) dRo_firstStop_39 rfl rfl ?_
      replace hf := bd1_s hf
      obtain ⟨a13, e_d, hf⟩ := hf
      subst e_d
      replace hf := bd1_s hf
      obtain ⟨x14, e_x14, hf⟩ := hf
      refine ax_iald dRo_firstStop_40 e_x14 ?_
      replace hf := bd1_s hf
      obtain ⟨a15, e_d, hf⟩ := hf
      subst e_d
      replace hf := bd1_s hf
      obtain ⟨x16, e_x16, hf⟩ := hf
      obtain ⟨k_e_x16, e_x16⟩ := cv_s e_x16
      refine ax_callV (As := [va_rf r11, .int x14]) (rest := []) (c_Go_may e_x16) ml_768 cm_Go_may rfl k_e_x16 (Nat.le_trans (Nat.le_of_ble_eq_true rfl) hR1) (Nat.le_trans (Nat.le_of_ble_eq_true rfl) hR2) rfl rfl (Nat.le_of_ble_eq_true rfl) dRo_firstStop_41 ?_
      replace hf := ite_c hf
      rcases hf with ⟨hc, hf⟩ | ⟨hc, hf⟩
      · refine ax_if_neF 49 dRo_firstStop_44 (by decide) hc ?_
        refine ax_iload_n (i := 2) dRo_firstStop_47 rfl rfl ?_
        cases hf
        exact Hr _ _ dRo_firstStop_48
      · refine ax_if_neT 49 dRo_firstStop_44 (by decide) hc ?_
        refine ax_aload_n (i := 0) (some y0) dRo_firstStop_49 rfl rfl ?_
        refine ax_iload_n (i := 2) dRo_firstStop_50 rfl rfl ?_
        refine ax_aload_n (i := 0) (some y0) dRo_firstStop_51 rfl rfl ?_
        replace hf := bd1_s hf
        obtain ⟨r17, e_r17, hf⟩ := hf
        refine ax_getR fl_242 rfl dRo_firstStop_52 e_r17 ?_
        refine ax_iload_n (i := 2) dRo_firstStop_55 rfl rfl ?_
        replace hf := bd1_s hf
        obtain ⟨a18, e_d, hf⟩ := hf
        subst e_d
        replace hf := bd1_s hf
        obtain ⟨x19, e_x19, hf⟩ := hf
        refine ax_iald dRo_firstStop_56 e_x19 ?_
        replace hf := bd1_s hf
        obtain ⟨h20, e_h20, hf⟩ := hf
        obtain ⟨k_e_h20, e_h20⟩ := cv_s e_h20
        refine ax_callV (As := [.int z2, .int x19]) (rest := []) (c_Ro_goOn e_h20) ml_782 cm_Ro_goOn rfl k_e_h20 (Nat.le_trans (Nat.le_of_ble_eq_true rfl) hR1) (Nat.le_trans (Nat.le_of_ble_eq_true rfl) hR2) rfl rfl (Nat.le_of_ble_eq_true rfl) dRo_firstStop_57 ?_
        refine ax_iinc (i := 2) (z2 + (1 : Int32)) [some (va_rf (some y0)), none, some (.int (z2 + (1 : Int32)))] dRo_firstStop_60 rfl (iic k32_1) (Or.inr (c1n rfl)) rfl ?_
        refine ax_goto 16 dRo_firstStop_63 (by decide) ?_
        exact ih (z2 + (1 : Int32)) h20 hf
    · refine ax_icmp_geT 66 dRo_firstStop_21 (by decide) hc ?_
      refine ax_iconst (-1 : Int32) dRo_firstStop_66 k32_m1 ?_
      cases hf
      exact Hr _ _ dRo_firstStop_67
theorem v_Ro_firstStop {l : Launch} {E : EN} {R : Room} {B : (Nat × Nat) × (Nat × Nat)} {Qf : QF} {h0 : AH} {o : Nat} {p1 : Int32} {r : Int32} {hF : AH} (hR1 : 5 ≤ R.frames) (hR2 : 320 ≤ R.locals) (Hr : ∀ (pc : Nat) (L : List (Option Value)), decode mi_Ro_firstStop.2.1 pc = .ok (.ireturn, 1) → AW l E mi_Ro_firstStop R B Qf pc L [.int r] hF) (hf : f_Ro_firstStop h0 o p1 = some (r, hF)) : AW l E mi_Ro_firstStop R B Qf 0 [some (va_rf (some o)), some (.int p1), none] [] h0 := by
  unfold f_Ro_firstStop at hf
  refine ax_aload_n (i := 0) (some o) dRo_firstStop_0 rfl rfl ?_
  replace hf := bd1_s hf
  obtain ⟨r1, e_r1, hf⟩ := hf
  refine ax_getR fl_246 rfl dRo_firstStop_1 e_r1 ?_
  refine ax_iconst (0 : Int32) dRo_firstStop_4 k32_0 ?_
  replace hf := bd1_s hf
  obtain ⟨a2, e_d, hf⟩ := hf
  subst e_d
  replace hf := bd1_s hf
  obtain ⟨r3, e_r3, hf⟩ := hf
  refine ax_aald (c := 3) (by decide) rfl rfl dRo_firstStop_5 e_r3 ?_
  refine ax_iload_n (i := 1) dRo_firstStop_6 rfl rfl ?_
  refine ax_aload_n (i := 0) (some o) dRo_firstStop_7 rfl rfl ?_
  replace hf := bd1_s hf
  obtain ⟨r4, e_r4, hf⟩ := hf
  refine ax_getR fl_240 rfl dRo_firstStop_8 e_r4 ?_
  replace hf := bd1_s hf
  obtain ⟨a5, e_d, hf⟩ := hf
  subst e_d
  replace hf := bd1_s hf
  obtain ⟨h6, e_h6, hf⟩ := hf
  obtain ⟨k_e_h6, e_h6⟩ := cv_s e_h6
  refine ax_callV (As := [.int p1, va_rf r4]) (rest := []) (c_Go_startWith e_h6) ml_756 cm_Go_startWith rfl k_e_h6 (Nat.le_trans (Nat.le_of_ble_eq_true rfl) hR1) (Nat.le_trans (Nat.le_of_ble_eq_true rfl) hR2) rfl rfl (Nat.le_of_ble_eq_true rfl) dRo_firstStop_11 ?_
  refine ax_iconst (0 : Int32) dRo_firstStop_14 k32_0 ?_
  refine ax_istore_n (i := 2) [some (va_rf (some o)), some (.int p1), some (.int (0 : Int32))] dRo_firstStop_15 rfl (Nat.le_of_ble_eq_true rfl) (Or.inr (c1i rfl)) rfl ?_
  refine ax_mask [true, false, true] rfl [some (va_rf (some o)), none, some (.int (0 : Int32))] rfl ?_
  refine w_Ro_firstStop_L16 hR1 hR2 Hr FU (0 : Int32) h6 hf
theorem c_Ro_firstStop {l : Launch} {E : EN} {h0 : AH} {o : Nat} {p1 : Int32} {r : Int32} {hF : AH} (hf : f_Ro_firstStop h0 o p1 = some (r, hF)) : AM l E 5 mi_Ro_firstStop [va_rf (some o), .int p1] h0 (some (.int r)) hF :=
  am_of2 [(va_rf (some o), false), (.int p1, false)] 1 ⟨cat_rf _, rfl, trivial⟩ rfl rfl (v_Ro_firstStop (Nat.le_refl _) (Nat.le_refl _) (fun pc L hd => ax_iret rfl hd rfl) hf)
theorem v_C_stops {l : Launch} {E : EN} {R : Room} {B : (Nat × Nat) × (Nat × Nat)} {Qf : QF} {h0 : AH} {o : Nat} {p1 : Int32} {r : Int32} {hF : AH} (hR1 : 6 ≤ R.frames) (hR2 : 384 ≤ R.locals) (Hr : ∀ (pc : Nat) (L : List (Option Value)), decode mi_C_stops.2.1 pc = .ok (.ireturn, 1) → AW l E mi_C_stops R B Qf pc L [.int r] hF) (hf : f_C_stops h0 o p1 = some (r, hF)) : AW l E mi_C_stops R B Qf 0 [some (va_rf (some o)), some (.int p1)] [] h0 := by
  unfold f_C_stops at hf
  refine ax_iload_n (i := 1) dC_stops_0 rfl rfl ?_
  replace hf := bd1_s hf
  obtain ⟨x1, e_x1, hf⟩ := hf
  refine ax_callS (As := [.int p1]) (rest := []) (c_C_isFacts e_x1) ml_691 cm_C_isFacts (Nat.le_trans (Nat.le_of_ble_eq_true rfl) hR1) (Nat.le_trans (Nat.le_of_ble_eq_true rfl) hR2) rfl rfl (Nat.le_of_ble_eq_true rfl) dC_stops_1 ?_
  replace hf := ite_c hf
  rcases hf with ⟨hc, hf⟩ | ⟨hc, hf⟩
  · refine ax_if_eqT 18 dC_stops_4 (by decide) hc ?_
    refine ax_bipush (-102 : Int32) dC_stops_18 k8_m102 ?_
    cases hf
    exact Hr _ _ dC_stops_20
  · refine ax_if_eqF 18 dC_stops_4 (by decide) hc ?_
    refine ax_aload_n (i := 0) (some o) dC_stops_7 rfl rfl ?_
    replace hf := bd1_s hf
    obtain ⟨r2, e_r2, hf⟩ := hf
    refine ax_getR fl_329 rfl dC_stops_8 e_r2 ?_
    refine ax_iload_n (i := 1) dC_stops_11 rfl rfl ?_
    replace hf := bd1_s hf
    obtain ⟨a3, e_d, hf⟩ := hf
    subst e_d
    replace hf := bd2_s hf
    obtain ⟨x4, h5, e_x4, hf⟩ := hf
    obtain ⟨k_e_x4, e_x4⟩ := cv_s e_x4
    refine ax_callV (As := [.int p1]) (rest := []) (c_Ro_firstStop e_x4) ml_752 cm_Ro_firstStop rfl k_e_x4 (Nat.le_trans (Nat.le_of_ble_eq_true rfl) hR1) (Nat.le_trans (Nat.le_of_ble_eq_true rfl) hR2) rfl rfl (Nat.le_of_ble_eq_true rfl) dC_stops_12 ?_
    refine ax_goto 20 dC_stops_15 (by decide) ?_
    cases hf
    exact Hr _ _ dC_stops_20
theorem c_C_stops {l : Launch} {E : EN} {h0 : AH} {o : Nat} {p1 : Int32} {r : Int32} {hF : AH} (hf : f_C_stops h0 o p1 = some (r, hF)) : AM l E 6 mi_C_stops [va_rf (some o), .int p1] h0 (some (.int r)) hF :=
  am_of2 [(va_rf (some o), false), (.int p1, false)] 0 ⟨cat_rf _, rfl, trivial⟩ rfl rfl (v_C_stops (Nat.le_refl _) (Nat.le_refl _) (fun pc L hd => ax_iret rfl hd rfl) hf)
theorem v_C_goingRefusal {l : Launch} {E : EN} {R : Room} {B : (Nat × Nat) × (Nat × Nat)} {Qf : QF} {h0 : AH} {o : Nat} {p1 : Int32} {r : Int32} {hF : AH} (hR1 : 6 ≤ R.frames) (hR2 : 384 ≤ R.locals) (Hr : ∀ (pc : Nat) (L : List (Option Value)), decode mi_C_goingRefusal.2.1 pc = .ok (.ireturn, 1) → AW l E mi_C_goingRefusal R B Qf pc L [.int r] hF) (hf : f_C_goingRefusal h0 o p1 = some (r, hF)) : AW l E mi_C_goingRefusal R B Qf 0 [some (va_rf (some o)), some (.int p1)] [] h0 := by
  unfold f_C_goingRefusal at hf
  refine ax_iload_n (i := 1) dC_goingRefusal_0 rfl rfl ?_
  replace hf := bd1_s hf
  obtain ⟨x1, e_x1, hf⟩ := hf
  refine ax_callS (As := [.int p1]) (rest := []) (c_C_isFacts e_x1) ml_691 cm_C_isFacts (Nat.le_trans (Nat.le_of_ble_eq_true rfl) hR1) (Nat.le_trans (Nat.le_of_ble_eq_true rfl) hR2) rfl rfl (Nat.le_of_ble_eq_true rfl) dC_goingRefusal_1 ?_
  replace hf := ite_c hf
  rcases hf with ⟨hc, hf⟩ | ⟨hc, hf⟩
  · refine ax_if_neF 10 dC_goingRefusal_4 (by decide) hc ?_
    refine ax_bipush (-102 : Int32) dC_goingRefusal_7 k8_m102 ?_
    cases hf
    exact Hr _ _ dC_goingRefusal_9
  · refine ax_if_neT 10 dC_goingRefusal_4 (by decide) hc ?_
    refine ax_aload_n (i := 0) (some o) dC_goingRefusal_10 rfl rfl ?_
    replace hf := bd1_s hf
    obtain ⟨r2, e_r2, hf⟩ := hf
    refine ax_getR fl_329 rfl dC_goingRefusal_11 e_r2 ?_
    refine ax_iload_n (i := 1) dC_goingRefusal_14 rfl rfl ?_
    replace hf := bd1_s hf
    obtain ⟨a3, e_d, hf⟩ := hf
    subst e_d
    replace hf := bd2_s hf
    obtain ⟨x4, h5, e_x4, hf⟩ := hf
    obtain ⟨k_e_x4, e_x4⟩ := cv_s e_x4
    refine ax_callV (As := [.int p1]) (rest := []) (c_Ro_firstStop e_x4) ml_752 cm_Ro_firstStop rfl k_e_x4 (Nat.le_trans (Nat.le_of_ble_eq_true rfl) hR1) (Nat.le_trans (Nat.le_of_ble_eq_true rfl) hR2) rfl rfl (Nat.le_of_ble_eq_true rfl) dC_goingRefusal_15 ?_
    refine ax_iconst (-1 : Int32) dC_goingRefusal_18 k32_m1 ?_
    replace hf := ite_c hf
    rcases hf with ⟨hc, hf⟩ | ⟨hc, hf⟩
    · refine ax_icmp_neF 26 dC_goingRefusal_19 (by decide) hc ?_
      refine ax_iconst (0 : Int32) dC_goingRefusal_22 k32_0 ?_
      refine ax_goto 28 dC_goingRefusal_23 (by decide) ?_
      cases hf
      exact Hr _ _ dC_goingRefusal_28
    · refine ax_icmp_neT 26 dC_goingRefusal_19 (by decide) hc ?_
      refine ax_bipush (-103 : Int32) dC_goingRefusal_26 k8_m103 ?_
      cases hf
      exact Hr _ _ dC_goingRefusal_28
theorem c_C_goingRefusal {l : Launch} {E : EN} {h0 : AH} {o : Nat} {p1 : Int32} {r : Int32} {hF : AH} (hf : f_C_goingRefusal h0 o p1 = some (r, hF)) : AM l E 6 mi_C_goingRefusal [va_rf (some o), .int p1] h0 (some (.int r)) hF :=
  am_of2 [(va_rf (some o), false), (.int p1, false)] 0 ⟨cat_rf _, rfl, trivial⟩ rfl rfl (v_C_goingRefusal (Nat.le_refl _) (Nat.le_refl _) (fun pc L hd => ax_iret rfl hd rfl) hf)
theorem v_Ro_end {l : Launch} {E : EN} {R : Room} {B : (Nat × Nat) × (Nat × Nat)} {Qf : QF} {h0 : AH} {o : Nat} {r : Option Nat} (hR1 : 1 ≤ R.frames) (hR2 : 64 ≤ R.locals) (Hr : ∀ (pc : Nat) (L : List (Option Value)), decode mi_Ro_end.2.1 pc = .ok (.areturn, 1) → AW l E mi_Ro_end R B Qf pc L [va_rf r] h0) (hf : f_Ro_end h0 o = some r) : AW l E mi_Ro_end R B Qf 0 [some (va_rf (some o))] [] h0 := by
  unfold f_Ro_end at hf
  refine ax_aload_n (i := 0) (some o) dRo_end_0 rfl rfl ?_
  replace hf := bd1_s hf
  obtain ⟨r1, e_r1, hf⟩ := hf
  refine ax_getR fl_246 rfl dRo_end_1 e_r1 ?_
  refine ax_aload_n (i := 0) (some o) dRo_end_4 rfl rfl ?_
  replace hf := bd1_s hf
  obtain ⟨x2, e_x2, hf⟩ := hf
  refine ax_getI fl_244 rfl dRo_end_5 e_x2 ?_
  replace hf := bd1_s hf
  obtain ⟨a3, e_d, hf⟩ := hf
  subst e_d
  replace hf := bd1_s hf
  obtain ⟨r4, e_r4, hf⟩ := hf
  refine ax_aald (c := 3) (by decide) rfl rfl dRo_end_8 e_r4 ?_
  cases hf
  exact Hr _ _ dRo_end_9
theorem c_Ro_end {l : Launch} {E : EN} {h0 : AH} {o : Nat} {r : Option Nat} (hf : f_Ro_end h0 o = some r) : AM l E 1 mi_Ro_end [va_rf (some o)] h0 (some (va_rf r)) h0 :=
  am_of2 [(va_rf (some o), false)] 0 ⟨cat_rf _, trivial⟩ rfl rfl (v_Ro_end (Nat.le_refl _) (Nat.le_refl _) (fun pc L hd => ax_aret rfl hd rfl) hf)
theorem v_C_after {l : Launch} {E : EN} {R : Room} {B : (Nat × Nat) × (Nat × Nat)} {Qf : QF} {h0 : AH} {o : Nat} {p1 : Int32} {r : Int32} {hF : AH} (hR1 : 7 ≤ R.frames) (hR2 : 448 ≤ R.locals) (Hr : ∀ (pc : Nat) (L : List (Option Value)), decode mi_C_after.2.1 pc = .ok (.ireturn, 1) → AW l E mi_C_after R B Qf pc L [.int r] hF) (hf : f_C_after h0 o p1 = some (r, hF)) : AW l E mi_C_after R B Qf 0 [some (va_rf (some o)), some (.int p1), none] [] h0 := by
  unfold f_C_after at hf
  refine ax_aload_n (i := 0) (some o) dC_after_0 rfl rfl ?_
  refine ax_iload_n (i := 1) dC_after_1 rfl rfl ?_
  replace hf := bd2_s hf
  obtain ⟨x1, h2, e_x1, hf⟩ := hf
  obtain ⟨k_e_x1, e_x1⟩ := cv_s e_x1
  refine ax_callV (As := [.int p1]) (rest := []) (c_C_goingRefusal e_x1) ml_798 cm_C_goingRefusal rfl k_e_x1 (Nat.le_trans (Nat.le_of_ble_eq_true rfl) hR1) (Nat.le_trans (Nat.le_of_ble_eq_true rfl) hR2) rfl rfl (Nat.le_of_ble_eq_true rfl) dC_after_2 ?_
  refine ax_istore_n (i := 2) [some (va_rf (some o)), some (.int p1), some (.int x1)] dC_after_5 rfl (Nat.le_of_ble_eq_true rfl) (Or.inr (c1i rfl)) rfl ?_
  refine ax_iload_n (i := 2) dC_after_6 rfl rfl ?_
  replace hf := ite_c hf
  rcases hf with ⟨hc, hf⟩ | ⟨hc, hf⟩
  · refine ax_if_eqT 14 dC_after_7 (by decide) hc ?_
    refine ax_aload_n (i := 0) (some o) dC_after_14 rfl rfl ?_
    replace hf := bd1_s hf
    obtain ⟨r3, e_r3, hf⟩ := hf
    refine ax_getR fl_329 rfl dC_after_15 e_r3 ?_
    replace hf := bd1_s hf
    obtain ⟨a4, e_d, hf⟩ := hf
    subst e_d
    replace hf := bd1_s hf
    obtain ⟨r5, e_r5, hf⟩ := hf
    obtain ⟨k_e_r5, e_r5⟩ := cv_s e_r5
    refine ax_callV (As := []) (rest := []) (c_Ro_end e_r5) ml_802 cm_Ro_end rfl k_e_r5 (Nat.le_trans (Nat.le_of_ble_eq_true rfl) hR1) (Nat.le_trans (Nat.le_of_ble_eq_true rfl) hR2) rfl rfl (Nat.le_of_ble_eq_true rfl) dC_after_18 ?_
    replace hf := bd1_s hf
    obtain ⟨a6, e_d, hf⟩ := hf
    subst e_d
    replace hf := bd1_s hf
    obtain ⟨x7, e_x7, hf⟩ := hf
    refine ax_getI fl_225 rfl dC_after_21 e_x7 ?_
    cases hf
    exact Hr _ _ dC_after_24
  · refine ax_if_eqF 14 dC_after_7 (by decide) hc ?_
    refine ax_iload_n (i := 2) dC_after_10 rfl rfl ?_
    refine ax_goto 24 dC_after_11 (by decide) ?_
    cases hf
    exact Hr _ _ dC_after_24
theorem c_C_after {l : Launch} {E : EN} {h0 : AH} {o : Nat} {p1 : Int32} {r : Int32} {hF : AH} (hf : f_C_after h0 o p1 = some (r, hF)) : AM l E 7 mi_C_after [va_rf (some o), .int p1] h0 (some (.int r)) hF :=
  am_of2 [(va_rf (some o), false), (.int p1, false)] 1 ⟨cat_rf _, rfl, trivial⟩ rfl rfl (v_C_after (Nat.le_refl _) (Nat.le_refl _) (fun pc L hd => ax_iret rfl hd rfl) hf)
theorem v_C_taint {l : Launch} {E : EN} {R : Room} {B : (Nat × Nat) × (Nat × Nat)} {Qf : QF} {h0 : AH} {o : Nat} {p1 : Int32} {p2 : Int32} {r : Int32} {hF : AH} (hR1 : 7 ≤ R.frames) (hR2 : 448 ≤ R.locals) (Hr : ∀ (pc : Nat) (L : List (Option Value)), decode mi_C_taint.2.1 pc = .ok (.ireturn, 1) → AW l E mi_C_taint R B Qf pc L [.int r] hF) (hf : f_C_taint h0 o p1 p2 = some (r, hF)) : AW l E mi_C_taint R B Qf 0 [some (va_rf (some o)), some (.int p1), some (.int p2), none, none] [] h0 := by
  unfold f_C_taint at hf
  refine ax_iload_n (i := 2) dC_taint_0 rfl rfl ?_
  replace hf := bd1_s hf
  obtain ⟨x1, e_x1, hf⟩ := hf
  refine ax_callS (As := [.int p2]) (rest := []) (c_C_isFact e_x1) ml_729 cm_C_isFact (Nat.le_trans (Nat.le_of_ble_eq_true rfl) hR1) (Nat.le_trans (Nat.le_of_ble_eq_true rfl) hR2) rfl rfl (Nat.le_of_ble_eq_true rfl) dC_taint_1 ?_
  replace hf := ite_c hf
  rcases hf with ⟨hc, hf⟩ | ⟨hc, hf⟩
  · refine ax_if_neF 10 dC_taint_4 (by decide) hc ?_
    refine ax_bipush (-101 : Int32) dC_taint_7 k8_m101 ?_
    cases hf
    exact Hr _ _ dC_taint_9
  · refine ax_if_neT 10 dC_taint_4 (by decide) hc ?_
    refine ax_aload_n (i := 0) (some o) dC_taint_10 rfl rfl ?_
    refine ax_iload_n (i := 1) dC_taint_11 rfl rfl ?_
    replace hf := bd2_s hf
    obtain ⟨x2, h3, e_x2, hf⟩ := hf
    obtain ⟨k_e_x2, e_x2⟩ := cv_s e_x2
    refine ax_callV (As := [.int p1]) (rest := []) (c_C_goingRefusal e_x2) ml_798 cm_C_goingRefusal rfl k_e_x2 (Nat.le_trans (Nat.le_of_ble_eq_true rfl) hR1) (Nat.le_trans (Nat.le_of_ble_eq_true rfl) hR2) rfl rfl (Nat.le_of_ble_eq_true rfl) dC_taint_12 ?_
    refine ax_istore_n (i := 3) [some (va_rf (some o)), some (.int p1), some (.int p2), some (.int x2), none] dC_taint_15 rfl (Nat.le_of_ble_eq_true rfl) (Or.inr (c1i rfl)) rfl ?_
    refine ax_iload_n (i := 3) dC_taint_16 rfl rfl ?_
    replace hf := ite_c hf
    rcases hf with ⟨hc, hf⟩ | ⟨hc, hf⟩
    · refine ax_if_eqT 22 dC_taint_17 (by decide) hc ?_
      refine ax_aload_n (i := 0) (some o) dC_taint_22 rfl rfl ?_
      replace hf := bd1_s hf
      obtain ⟨r4, e_r4, hf⟩ := hf
      refine ax_getR fl_329 rfl dC_taint_23 e_r4 ?_
      replace hf := bd1_s hf
      obtain ⟨a5, e_d, hf⟩ := hf
      subst e_d
      replace hf := bd1_s hf
      obtain ⟨r6, e_r6, hf⟩ := hf
      obtain ⟨k_e_r6, e_r6⟩ := cv_s e_r6
      refine ax_callV (As := []) (rest := []) (c_Ro_end e_r6) ml_802 cm_Ro_end rfl k_e_r6 (Nat.le_trans (Nat.le_of_ble_eq_true rfl) hR1) (Nat.le_trans (Nat.le_of_ble_eq_true rfl) hR2) rfl rfl (Nat.le_of_ble_eq_true rfl) dC_taint_26 ?_
      refine ax_astore (i := 4) (r := r6) [some (va_rf (some o)), some (.int p1), some (.int p2), some (.int x2), some (va_rf r6)] dC_taint_29 (Nat.le_of_ble_eq_true rfl) (Or.inr (c1i rfl)) rfl ?_
      refine ax_aload (i := 4) r6 dC_taint_31 rfl ?_
      replace hf := bd1_s hf
      obtain ⟨a7, e_d, hf⟩ := hf
      subst e_d
      replace hf := bd1_s hf
      obtain ⟨x8, e_x8, hf⟩ := hf
      refine ax_getI fl_225 rfl dC_taint_33 e_x8 ?_
      refine ax_iload_n (i := 2) dC_taint_36 rfl rfl ?_
      replace hf := bd1_s hf
      obtain ⟨x9, e_x9, hf⟩ := hf
      refine ax_callS (As := [.int x8, .int p2]) (rest := []) (c_C_hasBit e_x9) ml_810 cm_C_hasBit (Nat.le_trans (Nat.le_of_ble_eq_true rfl) hR1) (Nat.le_trans (Nat.le_of_ble_eq_true rfl) hR2) rfl rfl (Nat.le_of_ble_eq_true rfl) dC_taint_37 ?_
      replace hf := ite_c hf
      rcases hf with ⟨hc, hf⟩ | ⟨hc, hf⟩
      · refine ax_if_eqT 53 dC_taint_40 (by decide) hc ?_
        refine ax_iconst (-1 : Int32) dC_taint_53 k32_m1 ?_
        cases hf
        exact Hr _ _ dC_taint_54
      · refine ax_if_eqF 53 dC_taint_40 (by decide) hc ?_
        refine ax_aload (i := 4) (some a7) dC_taint_43 rfl ?_
        replace hf := bd1_s hf
        obtain ⟨r10, e_r10, hf⟩ := hf
        refine ax_getR fl_227 rfl dC_taint_45 e_r10 ?_
        refine ax_iload_n (i := 2) dC_taint_48 rfl rfl ?_
        replace hf := bd1_s hf
        obtain ⟨a11, e_d, hf⟩ := hf
        subst e_d
        replace hf := bd1_s hf
        obtain ⟨x12, e_x12, hf⟩ := hf
        refine ax_iald dC_taint_49 e_x12 ?_
        refine ax_goto 54 dC_taint_50 (by decide) ?_
        cases hf
        exact Hr _ _ dC_taint_54
    · refine ax_if_eqF 22 dC_taint_17 (by decide) hc ?_
      refine ax_iload_n (i := 3) dC_taint_20 rfl rfl ?_
      cases hf
      exact Hr _ _ dC_taint_21
theorem c_C_taint {l : Launch} {E : EN} {h0 : AH} {o : Nat} {p1 : Int32} {p2 : Int32} {r : Int32} {hF : AH} (hf : f_C_taint h0 o p1 p2 = some (r, hF)) : AM l E 7 mi_C_taint [va_rf (some o), .int p1, .int p2] h0 (some (.int r)) hF :=
  am_of2 [(va_rf (some o), false), (.int p1, false), (.int p2, false)] 2 ⟨cat_rf _, rfl, rfl, trivial⟩ rfl rfl (v_C_taint (Nat.le_refl _) (Nat.le_refl _) (fun pc L hd => ax_iret rfl hd rfl) hf)
theorem w_Ro_sumOfPrices_L4 {l : Launch} {E : EN} {R : Room} {B : (Nat × Nat) × (Nat × Nat)} {Qf : QF} {h0 : AH} {r : Int32} (hR1 : 2 ≤ R.frames) (hR2 : 128 ≤ R.locals) (Hr : ∀ (pc : Nat) (L : List (Option Value)), decode mi_Ro_sumOfPrices.2.1 pc = .ok (.ireturn, 1) → AW l E mi_Ro_sumOfPrices R B Qf pc L [.int r] h0) {y0 : Nat} : ∀ (n : Nat) (z1 : Int32) (z2 : Int32), f_Ro_sumOfPrices_L4 h0 y0 n z1 z2 = some r → AW l E mi_Ro_sumOfPrices R B Qf 4 [some (va_rf (some y0)), some (.int z1), some (.int z2)] [] h0 := by
  intro n
  induction n with
  | zero => intro z1 z2 hf; cases hf
  | succ n ih =>
    intro z1 z2 hf
    rw [f_Ro_sumOfPrices_L4] at hf
    refine ax_iload_n (i := 2) dRo_sumOfPrices_4 rfl rfl ?_
    refine ax_aload_n (i := 0) (some y0) dRo_sumOfPrices_5 rfl rfl ?_
    replace hf := bd1_s hf
    obtain ⟨x1, e_x1, hf⟩ := hf
    refine ax_getI fl_244 rfl dRo_sumOfPrices_6 e_x1 ?_
    replace hf := ite_c hf
    rcases hf with ⟨hc, hf⟩ | ⟨hc, hf⟩
    · refine ax_icmp_geF 31 dRo_sumOfPrices_9 (by decide) hc ?_
      refine ax_iload_n (i := 1) dRo_sumOfPrices_12 rfl rfl ?_
      refine ax_aload_n (i := 0) (some y0) dRo_sumOfPrices_13 rfl rfl ?_
      refine ax_iload_n (i := 2) dRo_sumOfPrices_14 rfl rfl ?_
      replace hf := bd1_s hf
      obtain ⟨r2, e_r2, hf⟩ := hf
      obtain ⟨k_e_r2, e_r2⟩ := cv_s e_r2
      refine ax_callV (As := [.int z2]) (rest := [.int z1]) (c_Ro_helperAt e_r2) ml_764 cm_Ro_helperAt rfl k_e_r2 (Nat.le_trans (Nat.le_of_ble_eq_true rfl) hR1) (Nat.le_trans (Nat.le_of_ble_eq_true rfl) hR2) rfl rfl (Nat.le_of_ble_eq_true rfl) dRo_sumOfPrices_15 ?_
      replace hf := bd1_s hf
      obtain ⟨a3, e_d, hf⟩ := hf
      subst e_d
      replace hf := bd1_s hf
      obtain ⟨r4, e_r4, hf⟩ := hf
      refine ax_getR fl_704 rfl dRo_sumOfPrices_18 e_r4 ?_
      refine ax_iconst (0 : Int32) dRo_sumOfPrices_21 k32_0 ?_
      replace hf := bd1_s hf
      obtain ⟨a5, e_d, hf⟩ := hf
      subst e_d
      replace hf := bd1_s hf
      obtain ⟨x6, e_x6, hf⟩ := hf
      refine ax_iald dRo_sumOfPrices_22 e_x6 ?_
      refine ax_iadd dRo_sumOfPrices_23 ?_
      replace hf := bd1_s hf
      obtain ⟨x7, e_x7, hf⟩ := hf
      refine ax_nmI (Option.some.inj e_x7) ?_
      refine ax_istore_n (i := 1) [some (va_rf (some y0)), some (.int x7), some (.int z2)] dRo_sumOfPrices_24 rfl (Nat.le_of_ble_eq_true rfl) (Or.inr (c1r rfl)) rfl ?_
      refine ax_iinc (i := 2) (z2 + (1 : Int32)) [some (va_rf (some y0)), some (.int x7), some (.int (z2 + (1 : Int32)))] dRo_sumOfPrices_25 rfl (iic k32_1) (Or.inr (c1i rfl)) rfl ?_
      refine ax_goto 4 dRo_sumOfPrices_28 (by decide) ?_
      exact ih x7 (z2 + (1 : Int32)) hf
    · refine ax_icmp_geT 31 dRo_sumOfPrices_9 (by decide) hc ?_
      refine ax_iload_n (i := 1) dRo_sumOfPrices_31 rfl rfl ?_
      cases hf
      exact Hr _ _ dRo_sumOfPrices_32
theorem v_Ro_sumOfPrices {l : Launch} {E : EN} {R : Room} {B : (Nat × Nat) × (Nat × Nat)} {Qf : QF} {h0 : AH} {o : Nat} {r : Int32} (hR1 : 2 ≤ R.frames) (hR2 : 128 ≤ R.locals) (Hr : ∀ (pc : Nat) (L : List (Option Value)), decode mi_Ro_sumOfPrices.2.1 pc = .ok (.ireturn, 1) → AW l E mi_Ro_sumOfPrices R B Qf pc L [.int r] h0) (hf : f_Ro_sumOfPrices h0 o = some r) : AW l E mi_Ro_sumOfPrices R B Qf 0 [some (va_rf (some o)), none, none] [] h0 := by
  unfold f_Ro_sumOfPrices at hf
  refine ax_iconst (0 : Int32) dRo_sumOfPrices_0 k32_0 ?_
  refine ax_istore_n (i := 1) [some (va_rf (some o)), some (.int (0 : Int32)), none] dRo_sumOfPrices_1 rfl (Nat.le_of_ble_eq_true rfl) (Or.inr (c1r rfl)) rfl ?_
  refine ax_iconst (0 : Int32) dRo_sumOfPrices_2 k32_0 ?_
  refine ax_istore_n (i := 2) [some (va_rf (some o)), some (.int (0 : Int32)), some (.int (0 : Int32))] dRo_sumOfPrices_3 rfl (Nat.le_of_ble_eq_true rfl) (Or.inr (c1i rfl)) rfl ?_
  refine w_Ro_sumOfPrices_L4 hR1 hR2 Hr FU (0 : Int32) (0 : Int32) hf
theorem c_Ro_sumOfPrices {l : Launch} {E : EN} {h0 : AH} {o : Nat} {r : Int32} (hf : f_Ro_sumOfPrices h0 o = some r) : AM l E 2 mi_Ro_sumOfPrices [va_rf (some o)] h0 (some (.int r)) h0 :=
  am_of2 [(va_rf (some o), false)] 2 ⟨cat_rf _, trivial⟩ rfl rfl (v_Ro_sumOfPrices (Nat.le_refl _) (Nat.le_refl _) (fun pc L hd => ax_iret rfl hd rfl) hf)
theorem v_C_costs {l : Launch} {E : EN} {R : Room} {B : (Nat × Nat) × (Nat × Nat)} {Qf : QF} {h0 : AH} {o : Nat} {r : Int32} (hR1 : 3 ≤ R.frames) (hR2 : 192 ≤ R.locals) (Hr : ∀ (pc : Nat) (L : List (Option Value)), decode mi_C_costs.2.1 pc = .ok (.ireturn, 1) → AW l E mi_C_costs R B Qf pc L [.int r] h0) (hf : f_C_costs h0 o = some r) : AW l E mi_C_costs R B Qf 0 [some (va_rf (some o))] [] h0 := by
  unfold f_C_costs at hf
  refine ax_aload_n (i := 0) (some o) dC_costs_0 rfl rfl ?_
  replace hf := bd1_s hf
  obtain ⟨r1, e_r1, hf⟩ := hf
  refine ax_getR fl_329 rfl dC_costs_1 e_r1 ?_
  replace hf := bd1_s hf
  obtain ⟨a2, e_d, hf⟩ := hf
  subst e_d
  replace hf := bd1_s hf
  obtain ⟨x3, e_x3, hf⟩ := hf
  obtain ⟨k_e_x3, e_x3⟩ := cv_s e_x3
  refine ax_callV (As := []) (rest := []) (c_Ro_sumOfPrices e_x3) ml_815 cm_Ro_sumOfPrices rfl k_e_x3 (Nat.le_trans (Nat.le_of_ble_eq_true rfl) hR1) (Nat.le_trans (Nat.le_of_ble_eq_true rfl) hR2) rfl rfl (Nat.le_of_ble_eq_true rfl) dC_costs_4 ?_
  cases hf
  exact Hr _ _ dC_costs_7
theorem c_C_costs {l : Launch} {E : EN} {h0 : AH} {o : Nat} {r : Int32} (hf : f_C_costs h0 o = some r) : AM l E 3 mi_C_costs [va_rf (some o)] h0 (some (.int r)) h0 :=
  am_of2 [(va_rf (some o), false)] 0 ⟨cat_rf _, trivial⟩ rfl rfl (v_C_costs (Nat.le_refl _) (Nat.le_refl _) (fun pc L hd => ax_iret rfl hd rfl) hf)
