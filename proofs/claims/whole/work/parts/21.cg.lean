theorem w_Ta_init_L111 {l : Launch} {E : EN} {R : Room} {B : (Nat × Nat) × (Nat × Nat)} {Qf : QF} {ρ : Type} {res : ρ} (hR1 : 2 ≤ R.frames) (hR2 : 128 ≤ R.locals) {y0 : Nat} {y1 : Nat} {y2 : Int32} {y3 : Int64} {k : AH → Option (ρ)} (hk : ∀ (h : AH), k h = some res → AW l E mi_Ta_init R B Qf 151 [some (va_rf (some y0)), some (va_rf (some y1)), some (.int y2), none, none, none] [] h) : ∀ (n : Nat) (z5 : Int32) (h : AH), f_Ta_init_L111 y0 y1 y2 y3 k n z5 h = some res → AW l E mi_Ta_init R B Qf 111 [some (va_rf (some y0)), some (va_rf (some y1)), some (.int y2), some (.long y3), none, some (.int z5)] [] h := by
  intro n
  induction n with
  | zero => intro z5 h hf; cases hf
  | succ n ih =>
    intro z5 h hf
    rw [f_Ta_init_L111] at hf
    refine ax_iload (i := 5) dTa_init_111 rfl ?_
    refine ax_aload_n (i := 0) (some y0) dTa_init_113 rfl rfl ?_
    replace hf := bd1_s hf
    obtain ⟨x21, e_x21, hf⟩ := hf
    refine ax_getI fl_471 rfl dTa_init_114 e_x21 ?_
    replace hf := ite_c hf
    rcases hf with ⟨hc, hf⟩ | ⟨hc, hf⟩
    · refine ax_icmp_gtT 151 dTa_init_117 (by decide) hc ?_
      refine ax_mask [true, true, true, false, true, false] rfl [some (va_rf (some y0)), some (va_rf (some y1)), some (.int y2), none, none, none] rfl ?_
      exact hk h hf
    · refine ax_icmp_gtF 151 dTa_init_117 (by decide) hc ?_
      refine ax_lload_n (i := 3) dTa_init_120 rfl rfl ?_
      refine ax_iload (i := 5) dTa_init_121 rfl ?_
      refine ax_lshr dTa_init_123 ?_
      refine ax_lconst (1 : Int64) dTa_init_124 kl_1 ?_
      refine ax_land dTa_init_125 ?_
      refine ax_lconst (0 : Int64) dTa_init_126 kl_0 ?_
      refine ax_lcmp dTa_init_127 ?_
      replace hf := ite_c hf
      rcases hf with ⟨hc, hf⟩ | ⟨hc, hf⟩
      · refine ax_if_eqT 145 dTa_init_128 (by decide) hc ?_
        refine ax_iinc (i := 5) (z5 + (1 : Int32)) [some (va_rf (some y0)), some (va_rf (some y1)), some (.int y2), some (.long y3), none, some (.int (z5 + (1 : Int32)))] dTa_init_145 rfl (iic k32_1) (Or.inr (c1n rfl)) rfl ?_
        refine ax_goto 111 dTa_init_148 (by decide) ?_
        exact ih (z5 + (1 : Int32)) h hf
      · refine ax_if_eqF 145 dTa_init_128 (by decide) hc ?_
        refine ax_aload_n (i := 0) (some y0) dTa_init_131 rfl rfl ?_
        refine ax_iload_n (i := 2) dTa_init_132 rfl rfl ?_
        refine ax_aload_n (i := 1) (some y1) dTa_init_133 rfl rfl ?_
        replace hf := bd1_s hf
        obtain ⟨r22, e_r22, hf⟩ := hf
        refine ax_getR fl_88 rfl dTa_init_134 e_r22 ?_
        refine ax_iload (i := 5) dTa_init_137 rfl ?_
        replace hf := bd1_s hf
        obtain ⟨a23, e_d, hf⟩ := hf
        subst e_d
        replace hf := bd1_s hf
        obtain ⟨x24, e_x24, hf⟩ := hf
        refine ax_iald dTa_init_139 e_x24 ?_
        refine ax_iload (i := 5) dTa_init_140 rfl ?_
        replace hf := bd1_s hf
        obtain ⟨h25, e_h25, hf⟩ := hf
        obtain ⟨k_e_h25, e_h25⟩ := cv_s e_h25
        refine ax_callV (As := [.int y2, .int x24, .int z5]) (rest := []) (c_Ta_addStep e_h25) ml_467 cm_Ta_addStep rfl k_e_h25 (Nat.le_trans (Nat.le_of_ble_eq_true rfl) hR1) (Nat.le_trans (Nat.le_of_ble_eq_true rfl) hR2) rfl rfl (Nat.le_of_ble_eq_true rfl) dTa_init_142 ?_
        refine ax_iinc (i := 5) (z5 + (1 : Int32)) [some (va_rf (some y0)), some (va_rf (some y1)), some (.int y2), some (.long y3), none, some (.int (z5 + (1 : Int32)))] dTa_init_145 rfl (iic k32_1) (Or.inr (c1n rfl)) rfl ?_
        refine ax_goto 111 dTa_init_148 (by decide) ?_
        exact ih (z5 + (1 : Int32)) h25 hf
theorem w_Ta_init_L70 {l : Launch} {E : EN} {R : Room} {B : (Nat × Nat) × (Nat × Nat)} {Qf : QF} {hF : AH} (hR1 : 2 ≤ R.frames) (hR2 : 128 ≤ R.locals) (Hr : ∀ (pc : Nat) (L : List (Option Value)), decode mi_Ta_init.2.1 pc = .ok (.return_, 1) → AW l E mi_Ta_init R B Qf pc L [] hF) {y0 : Nat} {y1 : Nat} : ∀ (n : Nat) (z2 : Int32) (h : AH), f_Ta_init_L70 y0 y1 n z2 h = some hF → AW l E mi_Ta_init R B Qf 70 [some (va_rf (some y0)), some (va_rf (some y1)), some (.int z2), none, none, none] [] h := by
  intro n
  induction n with
  | zero => intro z2 h hf; cases hf
  | succ n ih =>
    intro z2 h hf
    rw [f_Ta_init_L70] at hf
    refine ax_iload_n (i := 2) dTa_init_70 rfl rfl ?_
    refine ax_aload_n (i := 0) (some y0) dTa_init_71 rfl rfl ?_
    replace hf := bd1_s hf
    obtain ⟨x15, e_x15, hf⟩ := hf
    refine ax_getI fl_471 rfl dTa_init_72 e_x15 ?_
    replace hf := ite_c hf
    rcases hf with ⟨hc, hf⟩ | ⟨hc, hf⟩
    · refine ax_icmp_gtT 157 dTa_init_75 (by decide) hc ?_
      cases hf
      exact Hr _ _ dTa_init_157
    · refine ax_icmp_gtF 157 dTa_init_75 (by decide) hc ?_
      refine ax_aload_n (i := 0) (some y0) dTa_init_78 rfl rfl ?_
      refine ax_dup dTa_init_79 rfl ?_
      replace hf := bd1_s hf
      obtain ⟨x16, e_x16, hf⟩ := hf
      refine ax_getI fl_474 rfl dTa_init_80 e_x16 ?_
      refine ax_aload_n (i := 1) (some y1) dTa_init_83 rfl rfl ?_
      refine ax_iload_n (i := 2) dTa_init_84 rfl rfl ?_
      replace hf := bd1_s hf
      obtain ⟨x17, e_x17, hf⟩ := hf
      obtain ⟨k_e_x17, e_x17⟩ := cv_s e_x17
      refine ax_callV (As := [.int z2]) (rest := [.int x16, va_rf (some y0)]) (c_Pa_mayStop e_x17) ml_462 cm_Pa_mayStop rfl k_e_x17 (Nat.le_trans (Nat.le_of_ble_eq_true rfl) hR1) (Nat.le_trans (Nat.le_of_ble_eq_true rfl) hR2) rfl rfl (Nat.le_of_ble_eq_true rfl) dTa_init_85 ?_
      replace hf := bd1_s hf
      obtain ⟨x18, hT, hf⟩ := hf
      have K : AW l E mi_Ta_init R B Qf 98 [some (va_rf (some y0)), some (va_rf (some y1)), some (.int z2), none, none, none] [.int x18, .int x16, va_rf (some y0)] h := by
        clear hT
        refine ax_ior dTa_init_98 ?_
        replace hf := bd1_s hf
        obtain ⟨h19, e_h19, hf⟩ := hf
        refine ax_putI fw_474 rfl rfl dTa_init_99 e_h19 ?_
        refine ax_aload_n (i := 1) (some y1) dTa_init_102 rfl rfl ?_
        refine ax_iload_n (i := 2) dTa_init_103 rfl rfl ?_
        replace hf := bd1_s hf
        obtain ⟨x20, e_x20, hf⟩ := hf
        obtain ⟨k_e_x20, e_x20⟩ := cv_s e_x20
        refine ax_callV (As := [.int z2]) (rest := []) (c_Pa_nextSteps e_x20) ml_466 cm_Pa_nextSteps rfl k_e_x20 (Nat.le_trans (Nat.le_of_ble_eq_true rfl) hR1) (Nat.le_trans (Nat.le_of_ble_eq_true rfl) hR2) rfl rfl (Nat.le_of_ble_eq_true rfl) dTa_init_104 ?_
        refine ax_lstore_n (i := 3) [some (va_rf (some y0)), some (va_rf (some y1)), some (.int z2), some (.long x20), none, none] dTa_init_107 rfl (Nat.le_of_ble_eq_true rfl) (Or.inr (c1i rfl)) rfl ?_
        refine ax_iconst (1 : Int32) dTa_init_108 k32_1 ?_
        refine ax_istore (i := 5) [some (va_rf (some y0)), some (va_rf (some y1)), some (.int z2), some (.long x20), none, some (.int (1 : Int32))] dTa_init_109 (Nat.le_of_ble_eq_true rfl) (Or.inr (c1n rfl)) rfl ?_
        refine w_Ta_init_L111 hR1 hR2 (fun h26 hf => ?_) FU (1 : Int32) h19 hf
        refine ax_iinc (i := 2) (z2 + (1 : Int32)) [some (va_rf (some y0)), some (va_rf (some y1)), some (.int (z2 + (1 : Int32))), none, none, none] dTa_init_151 rfl (iic k32_1) (Or.inr (c1r rfl)) rfl ?_
        refine ax_goto 70 dTa_init_154 (by decide) ?_
        exact ih (z2 + (1 : Int32)) h26 hf
      replace hf := hT
      clear hT
      replace hf := ite_c hf
      rcases hf with ⟨hc, hf⟩ | ⟨hc, hf⟩
      · refine ax_if_eqT 97 dTa_init_88 (by decide) hc ?_
        refine ax_iconst (0 : Int32) dTa_init_97 k32_0 ?_
        cases hf
        exact K
      · refine ax_if_eqF 97 dTa_init_88 (by decide) hc ?_
        refine ax_iconst (1 : Int32) dTa_init_91 k32_1 ?_
        refine ax_iload_n (i := 2) dTa_init_92 rfl rfl ?_
        refine ax_ishl dTa_init_93 ?_
        refine ax_goto 98 dTa_init_94 (by decide) ?_
        cases hf
        exact K
theorem v_Ta_init {l : Launch} {E : EN} {R : Room} {B : (Nat × Nat) × (Nat × Nat)} {Qf : QF} {h0 : AH} {o : Nat} {p1 : Option Nat} {hF : AH} (hR1 : 2 ≤ R.frames) (hR2 : 128 ≤ R.locals) (Hr : ∀ (pc : Nat) (L : List (Option Value)), decode mi_Ta_init.2.1 pc = .ok (.return_, 1) → AW l E mi_Ta_init R B Qf pc L [] hF) (hf : f_Ta_init h0 o p1 = some hF) : AW l E mi_Ta_init R B Qf 0 [some (va_rf (some o)), some (va_rf p1), none, none, none, none] [] h0 := by
  unfold f_Ta_init at hf
  refine ax_aload_n (i := 0) (some o) dTa_init_0 rfl rfl ?_
  refine ax_objInit w_452 w_obi w_obc (Nat.le_trans (Nat.le_of_ble_eq_true rfl) hR1) (Nat.le_trans (Nat.le_of_ble_eq_true rfl) hR2) (Nat.le_of_ble_eq_true rfl) dTa_init_1 ?_
  refine ax_aload_n (i := 0) (some o) dTa_init_4 rfl rfl ?_
  refine ax_iconst (0 : Int32) dTa_init_5 k32_0 ?_
  refine ax_bipush (24 : Int32) dTa_init_6 k8_24 ?_
  refine ax_aload_n (i := 1) p1 dTa_init_8 rfl rfl ?_
  replace hf := bd1_s hf
  obtain ⟨a1, e_d, hf⟩ := hf
  subst e_d
  replace hf := bd1_s hf
  obtain ⟨x2, e_x2, hf⟩ := hf
  refine ax_getI fl_84 rfl dTa_init_9 e_x2 ?_
  refine ax_mmin w_453 w_mmin_s w_math w_mmin_c (Nat.le_trans (Nat.le_of_ble_eq_true rfl) hR1) (Nat.le_trans (Nat.le_of_ble_eq_true rfl) hR2) (Nat.le_of_ble_eq_true rfl) dTa_init_12 ?_
  refine ax_mmax w_456 w_mmax_s w_math w_mmax_c (Nat.le_trans (Nat.le_of_ble_eq_true rfl) hR1) (Nat.le_trans (Nat.le_of_ble_eq_true rfl) hR2) (Nat.le_of_ble_eq_true rfl) dTa_init_15 ?_
  replace hf := bd1_s hf
  obtain ⟨h3, e_h3, hf⟩ := hf
  refine ax_putI fw_471 rfl rfl dTa_init_18 e_h3 ?_
  refine ax_aload_n (i := 0) (some o) dTa_init_21 rfl rfl ?_
  refine ax_aload_n (i := 0) (some o) dTa_init_22 rfl rfl ?_
  replace hf := bd1_s hf
  obtain ⟨x4, e_x4, hf⟩ := hf
  refine ax_getI fl_471 rfl dTa_init_23 e_x4 ?_
  refine ax_iconst (1 : Int32) dTa_init_26 k32_1 ?_
  refine ax_iadd dTa_init_27 ?_
  refine ax_bipush (16 : Int32) dTa_init_28 k8_16 ?_
  refine ax_imul dTa_init_30 ?_
  replace hf := bd1_s hf
  obtain ⟨h5, e_h5, hf⟩ := hf
  refine ax_newa (d := 1) (Or.inl rfl) rfl w_ac1 dTa_init_31 e_h5 ?_
  replace hf := bd1_s hf
  obtain ⟨h6, e_h6, hf⟩ := hf
  refine ax_putR (v := (some (hM h3))) fw_475 rfl rfl dTa_init_33 e_h6 ?_
  refine ax_aload_n (i := 0) (some o) dTa_init_36 rfl rfl ?_
  refine ax_aload_n (i := 0) (some o) dTa_init_37 rfl rfl ?_
  replace hf := bd1_s hf
  obtain ⟨x7, e_x7, hf⟩ := hf
  refine ax_getI fl_471 rfl dTa_init_38 e_x7 ?_
  refine ax_iconst (1 : Int32) dTa_init_41 k32_1 ?_
  refine ax_iadd dTa_init_42 ?_
  replace hf := bd1_s hf
  obtain ⟨h8, e_h8, hf⟩ := hf
  refine ax_newa (d := 1) (Or.inl rfl) rfl w_ac1 dTa_init_43 e_h8 ?_
  replace hf := bd1_s hf
  obtain ⟨h9, e_h9, hf⟩ := hf
  refine ax_putR (v := (some (hM h6))) fw_476 rfl rfl dTa_init_45 e_h9 ?_
  refine ax_aload_n (i := 0) (some o) dTa_init_48 rfl rfl ?_
  refine ax_aload_n (i := 0) (some o) dTa_init_49 rfl rfl ?_
  replace hf := bd1_s hf
  obtain ⟨x10, e_x10, hf⟩ := hf
  refine ax_getI fl_471 rfl dTa_init_50 e_x10 ?_
  refine ax_iconst (1 : Int32) dTa_init_53 k32_1 ?_
  refine ax_iadd dTa_init_54 ?_
  replace hf := bd1_s hf
  obtain ⟨h11, e_h11, hf⟩ := hf
  refine ax_newa (d := 1) (Or.inl rfl) rfl w_ac1 dTa_init_55 e_h11 ?_
  replace hf := bd1_s hf
  obtain ⟨h12, e_h12, hf⟩ := hf
  refine ax_putR (v := (some (hM h9))) fw_480 rfl rfl dTa_init_57 e_h12 ?_
  refine ax_aload_n (i := 0) (some o) dTa_init_60 rfl rfl ?_
  replace hf := bd1_s hf
  obtain ⟨r13, e_r13, hf⟩ := hf
  refine ax_getR fl_475 rfl dTa_init_61 e_r13 ?_
  refine ax_iconst (-1 : Int32) dTa_init_64 k32_m1 ?_
  replace hf := bd1_s hf
  obtain ⟨h14, e_h14, hf⟩ := hf
  refine ax_callS (As := [va_rf r13, .int (-1 : Int32)]) (rest := []) (c_jA_fill_I e_h14) ml_459 cm_jA_fill_I (Nat.le_trans (Nat.le_of_ble_eq_true rfl) hR1) (Nat.le_trans (Nat.le_of_ble_eq_true rfl) hR2) rfl rfl (Nat.le_of_ble_eq_true rfl) dTa_init_65 ?_
  refine ax_iconst (0 : Int32) dTa_init_68 k32_0 ?_
  refine ax_istore_n (i := 2) [some (va_rf (some o)), some (va_rf (some a1)), some (.int (0 : Int32)), none, none, none] dTa_init_69 rfl (Nat.le_of_ble_eq_true rfl) (Or.inr (c1r rfl)) rfl ?_
  refine w_Ta_init_L70 hR1 hR2 Hr FU (0 : Int32) h14 hf
theorem c_Ta_init {l : Launch} {E : EN} {h0 : AH} {o : Nat} {p1 : Option Nat} {hF : AH} (hf : f_Ta_init h0 o p1 = some hF) : AM l E 2 mi_Ta_init [va_rf (some o), va_rf p1] h0 none hF :=
  am_of2 [(va_rf (some o), false), (va_rf p1, false)] 4 ⟨cat_rf _, cat_rf _, trivial⟩ rfl rfl (v_Ta_init (Nat.le_refl _) (Nat.le_refl _) (fun pc L hd => ax_vret rfl hd rfl) hf)
theorem v_C_talk {l : Launch} {E : EN} {R : Room} {B : (Nat × Nat) × (Nat × Nat)} {Qf : QF} {h0 : AH} {o : Nat} {r : Int32} {hF : AH} (hR1 : 6 ≤ R.frames) (hR2 : 384 ≤ R.locals) (Hr : ∀ (pc : Nat) (L : List (Option Value)), decode mi_C_talk.2.1 pc = .ok (.ireturn, 1) → AW l E mi_C_talk R B Qf pc L [.int r] hF) (hf : f_C_talk h0 o = some (r, hF)) : AW l E mi_C_talk R B Qf 0 [some (va_rf (some o)), none] [] h0 := by
  unfold f_C_talk at hf
  refine ax_aload_n (i := 0) (some o) dC_talk_0 rfl rfl ?_
  replace hf := bd1_s hf
  obtain ⟨r1, e_r1, hf⟩ := hf
  refine ax_getR fl_321 rfl dC_talk_1 e_r1 ?_
  replace hf := bd1_s hf
  obtain ⟨a2, e_d, hf⟩ := hf
  subst e_d
  replace hf := bd2_s hf
  obtain ⟨x3, h4, e_x3, hf⟩ := hf
  obtain ⟨k_e_x3, e_x3⟩ := cv_s e_x3
  refine ax_callV (As := []) (rest := []) (c_Pa_read e_x3) ml_374 cm_Pa_read rfl k_e_x3 (Nat.le_trans (Nat.le_of_ble_eq_true rfl) hR1) (Nat.le_trans (Nat.le_of_ble_eq_true rfl) hR2) rfl rfl (Nat.le_of_ble_eq_true rfl) dC_talk_4 ?_
  refine ax_istore_n (i := 1) [some (va_rf (some o)), some (.int x3)] dC_talk_7 rfl (Nat.le_of_ble_eq_true rfl) (Or.inr (c1r rfl)) rfl ?_
  refine ax_iload_n (i := 1) dC_talk_8 rfl rfl ?_
  refine ax_aload_n (i := 0) (some o) dC_talk_9 rfl rfl ?_
  replace hf := bd1_s hf
  obtain ⟨r5, e_r5, hf⟩ := hf
  refine ax_getR fl_321 rfl dC_talk_10 e_r5 ?_
  replace hf := bd1_s hf
  obtain ⟨a6, e_d, hf⟩ := hf
  subst e_d
  replace hf := bd1_s hf
  obtain ⟨x7, e_x7, hf⟩ := hf
  refine ax_getI fl_80 rfl dC_talk_13 e_x7 ?_
  replace hf := ite_c hf
  rcases hf with ⟨hc, hf⟩ | ⟨hc, hf⟩
  · refine ax_icmp_ltT 29 dC_talk_16 (by decide) hc ?_
    refine ax_bipush (-103 : Int32) dC_talk_29 k8_m103 ?_
    cases hf
    exact Hr _ _ dC_talk_31
  · refine ax_icmp_ltF 29 dC_talk_16 (by decide) hc ?_
    refine ax_aload_n (i := 0) (some o) dC_talk_19 rfl rfl ?_
    replace hf := bd1_s hf
    obtain ⟨r8, e_r8, hf⟩ := hf
    refine ax_getR fl_321 rfl dC_talk_20 e_r8 ?_
    replace hf := bd1_s hf
    obtain ⟨a9, e_d, hf⟩ := hf
    subst e_d
    replace hf := bd1_s hf
    obtain ⟨x10, e_x10, hf⟩ := hf
    obtain ⟨k_e_x10, e_x10⟩ := cv_s e_x10
    refine ax_callV (As := []) (rest := []) (c_Pa_isWhole e_x10) ml_433 cm_Pa_isWhole rfl k_e_x10 (Nat.le_trans (Nat.le_of_ble_eq_true rfl) hR1) (Nat.le_trans (Nat.le_of_ble_eq_true rfl) hR2) rfl rfl (Nat.le_of_ble_eq_true rfl) dC_talk_23 ?_
    replace hf := ite_c hf
    rcases hf with ⟨hc, hf⟩ | ⟨hc, hf⟩
    · refine ax_if_neF 32 dC_talk_26 (by decide) hc ?_
      refine ax_bipush (-103 : Int32) dC_talk_29 k8_m103 ?_
      cases hf
      exact Hr _ _ dC_talk_31
    · refine ax_if_neT 32 dC_talk_26 (by decide) hc ?_
      refine ax_aload_n (i := 0) (some o) dC_talk_32 rfl rfl ?_
      replace hf := bd1_s hf
      obtain ⟨r11, e_r11, hf⟩ := hf
      refine ax_getR fl_321 rfl dC_talk_33 e_r11 ?_
      replace hf := bd1_s hf
      obtain ⟨a12, e_d, hf⟩ := hf
      subst e_d
      replace hf := bd1_s hf
      obtain ⟨x13, e_x13, hf⟩ := hf
      refine ax_getI fl_86 rfl dC_talk_36 e_x13 ?_
      refine ax_bipush (24 : Int32) dC_talk_39 k8_24 ?_
      replace hf := ite_c hf
      rcases hf with ⟨hc, hf⟩ | ⟨hc, hf⟩
      · refine ax_icmp_gtT 54 dC_talk_41 (by decide) hc ?_
        refine ax_bipush (-102 : Int32) dC_talk_54 k8_m102 ?_
        cases hf
        exact Hr _ _ dC_talk_56
      · refine ax_icmp_gtF 54 dC_talk_41 (by decide) hc ?_
        refine ax_aload_n (i := 0) (some o) dC_talk_44 rfl rfl ?_
        replace hf := bd1_s hf
        obtain ⟨r14, e_r14, hf⟩ := hf
        refine ax_getR fl_321 rfl dC_talk_45 e_r14 ?_
        replace hf := bd1_s hf
        obtain ⟨a15, e_d, hf⟩ := hf
        subst e_d
        replace hf := bd1_s hf
        obtain ⟨x16, e_x16, hf⟩ := hf
        obtain ⟨k_e_x16, e_x16⟩ := cv_s e_x16
        refine ax_callV (As := []) (rest := []) (c_Pa_isTwofold e_x16) ml_437 cm_Pa_isTwofold rfl k_e_x16 (Nat.le_trans (Nat.le_of_ble_eq_true rfl) hR1) (Nat.le_trans (Nat.le_of_ble_eq_true rfl) hR2) rfl rfl (Nat.le_of_ble_eq_true rfl) dC_talk_48 ?_
        replace hf := ite_c hf
        rcases hf with ⟨hc, hf⟩ | ⟨hc, hf⟩
        · refine ax_if_eqT 57 dC_talk_51 (by decide) hc ?_
          refine ax_aload_n (i := 0) (some o) dC_talk_57 rfl rfl ?_
          replace hf := bd1_s hf
          obtain ⟨x17, e_x17, hf⟩ := hf
          refine ax_getI fl_323 rfl dC_talk_58 e_x17 ?_
          refine ax_bipush (6 : Int32) dC_talk_61 k8_6 ?_
          replace hf := ite_c hf
          rcases hf with ⟨hc, hf⟩ | ⟨hc, hf⟩
          · refine ax_icmp_ltT 69 dC_talk_63 (by decide) hc ?_
            refine ax_aload_n (i := 0) (some o) dC_talk_69 rfl rfl ?_
            replace hf := bd1_s hf
            obtain ⟨r18, e_r18, hf⟩ := hf
            refine ax_getR fl_322 rfl dC_talk_70 e_r18 ?_
            refine ax_aload_n (i := 0) (some o) dC_talk_73 rfl rfl ?_
            replace hf := bd1_s hf
            obtain ⟨x19, e_x19, hf⟩ := hf
            refine ax_getI fl_323 rfl dC_talk_74 e_x19 ?_
            refine ax_new (ci := 9) rfl rfl w_108 dC_talk_77 ?_
            refine ax_dup dC_talk_80 rfl ?_
            refine ax_aload_n (i := 0) (some o) dC_talk_81 rfl rfl ?_
            replace hf := bd1_s hf
            obtain ⟨r21, e_r21, hf⟩ := hf
            refine ax_getR fl_321 rfl dC_talk_82 e_r21 ?_
            replace hf := bd1_s hf
            obtain ⟨h22, e_h22, hf⟩ := hf
            refine ax_callI (As := [va_rf r21]) (rest := [va_rf (some (hM h4)), .int x19, va_rf r18]) rfl (c_Ta_init e_h22) ml_449 cm_Ta_init (Nat.le_trans (Nat.le_of_ble_eq_true rfl) hR1) (Nat.le_trans (Nat.le_of_ble_eq_true rfl) hR2) rfl rfl (by simp only [List.map_cons, List.map_nil, List.sum_cons, List.sum_nil, cat_rf]; exact Nat.le_of_ble_eq_true rfl) dC_talk_85 ?_
            replace hf := bd1_s hf
            obtain ⟨a23, e_d, hf⟩ := hf
            subst e_d
            replace hf := bd1_s hf
            obtain ⟨h24, e_h24, hf⟩ := hf
            refine ax_aast (c := 9) (by decide) rfl rfl rfl dC_talk_88 e_h24 ?_
            refine ax_aload_n (i := 0) (some o) dC_talk_89 rfl rfl ?_
            refine ax_dup dC_talk_90 rfl ?_
            replace hf := bd1_s hf
            obtain ⟨x25, e_x25, hf⟩ := hf
            refine ax_getI fl_323 rfl dC_talk_91 e_x25 ?_
            refine ax_iconst (1 : Int32) dC_talk_94 k32_1 ?_
            refine ax_iadd dC_talk_95 ?_
            replace hf := bd1_s hf
            obtain ⟨h26, e_h26, hf⟩ := hf
            refine ax_putI fw_323 rfl rfl dC_talk_96 e_h26 ?_
            refine ax_aload_n (i := 0) (some o) dC_talk_99 rfl rfl ?_
            replace hf := bd1_s hf
            obtain ⟨r27, e_r27, hf⟩ := hf
            refine ax_getR fl_321 rfl dC_talk_100 e_r27 ?_
            refine ax_iconst (0 : Int32) dC_talk_103 k32_0 ?_
            replace hf := bd1_s hf
            obtain ⟨a28, e_d, hf⟩ := hf
            subst e_d
            replace hf := bd1_s hf
            obtain ⟨h29, e_h29, hf⟩ := hf
            refine ax_putI fw_80 rfl rfl dC_talk_104 e_h29 ?_
            refine ax_aload_n (i := 0) (some o) dC_talk_107 rfl rfl ?_
            replace hf := bd1_s hf
            obtain ⟨x30, e_x30, hf⟩ := hf
            refine ax_getI fl_323 rfl dC_talk_108 e_x30 ?_
            refine ax_iconst (1 : Int32) dC_talk_111 k32_1 ?_
            refine ax_isub dC_talk_112 ?_
            cases hf
            exact Hr _ _ dC_talk_113
          · refine ax_icmp_ltF 69 dC_talk_63 (by decide) hc ?_
            refine ax_bipush (-104 : Int32) dC_talk_66 k8_m104 ?_
            cases hf
            exact Hr _ _ dC_talk_68
        · refine ax_if_eqF 57 dC_talk_51 (by decide) hc ?_
          refine ax_bipush (-102 : Int32) dC_talk_54 k8_m102 ?_
          cases hf
          exact Hr _ _ dC_talk_56
theorem c_C_talk {l : Launch} {E : EN} {h0 : AH} {o : Nat} {r : Int32} {hF : AH} (hf : f_C_talk h0 o = some (r, hF)) : AM l E 6 mi_C_talk [va_rf (some o)] h0 (some (.int r)) hF :=
  am_of2 [(va_rf (some o), false)] 1 ⟨cat_rf _, trivial⟩ rfl rfl (v_C_talk (Nat.le_refl _) (Nat.le_refl _) (fun pc L hd => ax_iret rfl hd rfl) hf)
theorem v_C_talkNumbered {l : Launch} {E : EN} {R : Room} {B : (Nat × Nat) × (Nat × Nat)} {Qf : QF} {h0 : AH} {o : Nat} {p1 : Int32} {r : Option Nat} (hR1 : 1 ≤ R.frames) (hR2 : 64 ≤ R.locals) (Hr : ∀ (pc : Nat) (L : List (Option Value)), decode mi_C_talkNumbered.2.1 pc = .ok (.areturn, 1) → AW l E mi_C_talkNumbered R B Qf pc L [va_rf r] h0) (hf : f_C_talkNumbered h0 o p1 = some r) : AW l E mi_C_talkNumbered R B Qf 0 [some (va_rf (some o)), some (.int p1)] [] h0 := by
  unfold f_C_talkNumbered at hf
  refine ax_iload_n (i := 1) dC_talkNumbered_0 rfl rfl ?_
  replace hf := ite_c hf
  rcases hf with ⟨hc, hf⟩ | ⟨hc, hf⟩
  · refine ax_if_ltT 12 dC_talkNumbered_1 (by decide) hc ?_
    refine ax_null dC_talkNumbered_12 ?_
    refine ax_goto 22 dC_talkNumbered_13 (by decide) ?_
    cases hf
    exact Hr _ _ dC_talkNumbered_22
  · refine ax_if_ltF 12 dC_talkNumbered_1 (by decide) hc ?_
    refine ax_iload_n (i := 1) dC_talkNumbered_4 rfl rfl ?_
    refine ax_aload_n (i := 0) (some o) dC_talkNumbered_5 rfl rfl ?_
    replace hf := bd1_s hf
    obtain ⟨x1, e_x1, hf⟩ := hf
    refine ax_getI fl_323 rfl dC_talkNumbered_6 e_x1 ?_
    replace hf := ite_c hf
    rcases hf with ⟨hc, hf⟩ | ⟨hc, hf⟩
    · refine ax_icmp_ltT 16 dC_talkNumbered_9 (by decide) hc ?_
      refine ax_aload_n (i := 0) (some o) dC_talkNumbered_16 rfl rfl ?_
      replace hf := bd1_s hf
      obtain ⟨r2, e_r2, hf⟩ := hf
      refine ax_getR fl_322 rfl dC_talkNumbered_17 e_r2 ?_
      refine ax_iload_n (i := 1) dC_talkNumbered_20 rfl rfl ?_
      replace hf := bd1_s hf
      obtain ⟨a3, e_d, hf⟩ := hf
      subst e_d
      replace hf := bd1_s hf
      obtain ⟨r4, e_r4, hf⟩ := hf
      refine ax_aald (c := 9) (by decide) rfl rfl dC_talkNumbered_21 e_r4 ?_
      cases hf
      exact Hr _ _ dC_talkNumbered_22
    · refine ax_icmp_ltF 16 dC_talkNumbered_9 (by decide) hc ?_
      refine ax_null dC_talkNumbered_12 ?_
      refine ax_goto 22 dC_talkNumbered_13 (by decide) ?_
      cases hf
      exact Hr _ _ dC_talkNumbered_22
theorem c_C_talkNumbered {l : Launch} {E : EN} {h0 : AH} {o : Nat} {p1 : Int32} {r : Option Nat} (hf : f_C_talkNumbered h0 o p1 = some r) : AM l E 1 mi_C_talkNumbered [va_rf (some o), .int p1] h0 (some (va_rf r)) h0 :=
  am_of2 [(va_rf (some o), false), (.int p1, false)] 0 ⟨cat_rf _, rfl, trivial⟩ rfl rfl (v_C_talkNumbered (Nat.le_refl _) (Nat.le_refl _) (fun pc L hd => ax_aret rfl hd rfl) hf)
theorem v_C_steps {l : Launch} {E : EN} {R : Room} {B : (Nat × Nat) × (Nat × Nat)} {Qf : QF} {h0 : AH} {o : Nat} {p1 : Int32} {r : Int32} (hR1 : 2 ≤ R.frames) (hR2 : 128 ≤ R.locals) (Hr : ∀ (pc : Nat) (L : List (Option Value)), decode mi_C_steps.2.1 pc = .ok (.ireturn, 1) → AW l E mi_C_steps R B Qf pc L [.int r] h0) (hf : f_C_steps h0 o p1 = some r) : AW l E mi_C_steps R B Qf 0 [some (va_rf (some o)), some (.int p1), none] [] h0 := by
  unfold f_C_steps at hf
  refine ax_aload_n (i := 0) (some o) dC_steps_0 rfl rfl ?_
  refine ax_iload_n (i := 1) dC_steps_1 rfl rfl ?_
  replace hf := bd1_s hf
  obtain ⟨r1, e_r1, hf⟩ := hf
  obtain ⟨k_e_r1, e_r1⟩ := cv_s e_r1
  refine ax_callV (As := [.int p1]) (rest := []) (c_C_talkNumbered e_r1) ml_499 cm_C_talkNumbered rfl k_e_r1 (Nat.le_trans (Nat.le_of_ble_eq_true rfl) hR1) (Nat.le_trans (Nat.le_of_ble_eq_true rfl) hR2) rfl rfl (Nat.le_of_ble_eq_true rfl) dC_steps_2 ?_
  refine ax_astore_n (i := 2) (r := r1) [some (va_rf (some o)), some (.int p1), some (va_rf r1)] dC_steps_5 rfl (Nat.le_of_ble_eq_true rfl) (Or.inr (c1i rfl)) rfl ?_
  refine ax_aload_n (i := 2) r1 dC_steps_6 rfl rfl ?_
  replace hf := onl_s hf
  rcases hf with ⟨e_d, hf⟩ | ⟨a2, e_d, hf⟩
  · subst e_d
    refine ax_ifnonnullF dC_steps_7 ?_
    refine ax_bipush (-101 : Int32) dC_steps_10 k8_m101 ?_
    refine ax_goto 19 dC_steps_12 (by decide) ?_
    cases hf
    exact Hr _ _ dC_steps_19
  · subst e_d
    refine ax_ifnonnullT 15 dC_steps_7 (by decide) ?_
    refine ax_aload_n (i := 2) (some a2) dC_steps_15 rfl rfl ?_
    replace hf := bd1_s hf
    obtain ⟨x3, e_x3, hf⟩ := hf
    refine ax_getI fl_473 rfl dC_steps_16 e_x3 ?_
    cases hf
    exact Hr _ _ dC_steps_19
theorem c_C_steps {l : Launch} {E : EN} {h0 : AH} {o : Nat} {p1 : Int32} {r : Int32} (hf : f_C_steps h0 o p1 = some r) : AM l E 2 mi_C_steps [va_rf (some o), .int p1] h0 (some (.int r)) h0 :=
  am_of2 [(va_rf (some o), false), (.int p1, false)] 1 ⟨cat_rf _, rfl, trivial⟩ rfl rfl (v_C_steps (Nat.le_refl _) (Nat.le_refl _) (fun pc L hd => ax_iret rfl hd rfl) hf)
theorem v_Ta_has {l : Launch} {E : EN} {R : Room} {B : (Nat × Nat) × (Nat × Nat)} {Qf : QF} {h0 : AH} {o : Nat} {p1 : Int32} {r : Int32} (hR1 : 1 ≤ R.frames) (hR2 : 64 ≤ R.locals) (Hr : (r = 0 ∨ r = 1) → ∀ (pc : Nat) (L : List (Option Value)), decode mi_Ta_has.2.1 pc = .ok (.ireturn, 1) → AW l E mi_Ta_has R B Qf pc L [.int r] h0) (hf : f_Ta_has h0 o p1 = some r) : AW l E mi_Ta_has R B Qf 0 [some (va_rf (some o)), some (.int p1)] [] h0 := by
  unfold f_Ta_has at hf
  refine ax_iload_n (i := 1) dTa_has_0 rfl rfl ?_
  replace hf := ite_c hf
  rcases hf with ⟨hc, hf⟩ | ⟨hc, hf⟩
  · refine ax_if_ltT 16 dTa_has_1 (by decide) hc ?_
    refine ax_iconst (0 : Int32) dTa_has_16 k32_0 ?_
    cases hf
    exact Hr (Or.inl rfl) _ _ dTa_has_17
  · refine ax_if_ltF 16 dTa_has_1 (by decide) hc ?_
    refine ax_iload_n (i := 1) dTa_has_4 rfl rfl ?_
    refine ax_aload_n (i := 0) (some o) dTa_has_5 rfl rfl ?_
    replace hf := bd1_s hf
    obtain ⟨x1, e_x1, hf⟩ := hf
    refine ax_getI fl_471 rfl dTa_has_6 e_x1 ?_
    replace hf := ite_c hf
    rcases hf with ⟨hc, hf⟩ | ⟨hc, hf⟩
    · refine ax_icmp_gtT 16 dTa_has_9 (by decide) hc ?_
      refine ax_iconst (0 : Int32) dTa_has_16 k32_0 ?_
      cases hf
      exact Hr (Or.inl rfl) _ _ dTa_has_17
    · refine ax_icmp_gtF 16 dTa_has_9 (by decide) hc ?_
      refine ax_iconst (1 : Int32) dTa_has_12 k32_1 ?_
      refine ax_goto 17 dTa_has_13 (by decide) ?_
      cases hf
      exact Hr (Or.inr rfl) _ _ dTa_has_17
theorem c_Ta_has {l : Launch} {E : EN} {h0 : AH} {o : Nat} {p1 : Int32} {r : Int32} (hf : f_Ta_has h0 o p1 = some r) : AM l E 1 mi_Ta_has [va_rf (some o), .int p1] h0 (some (.int r)) h0 :=
  am_of2 [(va_rf (some o), false), (.int p1, false)] 0 ⟨cat_rf _, rfl, trivial⟩ rfl rfl (v_Ta_has (Nat.le_refl _) (Nat.le_refl _) (fun hz pc L hd => ax_zret rfl hz hd rfl) hf)
theorem v_C_isSign {l : Launch} {E : EN} {R : Room} {B : (Nat × Nat) × (Nat × Nat)} {Qf : QF} {h0 : AH} {p1 : Int32} {r : Int32} (hR1 : 1 ≤ R.frames) (hR2 : 64 ≤ R.locals) (Hr : (r = 0 ∨ r = 1) → ∀ (pc : Nat) (L : List (Option Value)), decode mi_C_isSign.2.1 pc = .ok (.ireturn, 1) → AW l E mi_C_isSign R B Qf pc L [.int r] h0) (hf : f_C_isSign h0 p1 = some r) : AW l E mi_C_isSign R B Qf 0 [some (.int p1)] [] h0 := by
  unfold f_C_isSign at hf
  refine ax_iload_n (i := 0) dC_isSign_0 rfl rfl ?_
  replace hf := ite_c hf
  rcases hf with ⟨hc, hf⟩ | ⟨hc, hf⟩
  · refine ax_if_eqT 9 dC_isSign_1 (by decide) hc ?_
    refine ax_iconst (1 : Int32) dC_isSign_9 k32_1 ?_
    refine ax_goto 14 dC_isSign_10 (by decide) ?_
    cases hf
    exact Hr (Or.inr rfl) _ _ dC_isSign_14
  · refine ax_if_eqF 9 dC_isSign_1 (by decide) hc ?_
    refine ax_iload_n (i := 0) dC_isSign_4 rfl rfl ?_
    refine ax_iconst (1 : Int32) dC_isSign_5 k32_1 ?_
    replace hf := ite_c hf
    rcases hf with ⟨hc, hf⟩ | ⟨hc, hf⟩
    · refine ax_icmp_neF 13 dC_isSign_6 (by decide) hc ?_
      refine ax_iconst (1 : Int32) dC_isSign_9 k32_1 ?_
      refine ax_goto 14 dC_isSign_10 (by decide) ?_
      cases hf
      exact Hr (Or.inr rfl) _ _ dC_isSign_14
    · refine ax_icmp_neT 13 dC_isSign_6 (by decide) hc ?_
      refine ax_iconst (0 : Int32) dC_isSign_13 k32_0 ?_
      cases hf
      exact Hr (Or.inl rfl) _ _ dC_isSign_14
theorem c_C_isSign {l : Launch} {E : EN} {h0 : AH} {p1 : Int32} {r : Int32} (hf : f_C_isSign h0 p1 = some r) : AM l E 1 mi_C_isSign [.int p1] h0 (some (.int r)) h0 :=
  am_of2 [(.int p1, false)] 0 ⟨rfl, trivial⟩ rfl rfl (v_C_isSign (Nat.le_refl _) (Nat.le_refl _) (fun hz pc L hd => ax_zret rfl hz hd rfl) hf)
theorem v_Ta_behind {l : Launch} {E : EN} {R : Room} {B : (Nat × Nat) × (Nat × Nat)} {Qf : QF} {h0 : AH} {o : Nat} {p1 : Int32} {p2 : Int32} {p3 : Int32} {r : Int32} (hR1 : 1 ≤ R.frames) (hR2 : 64 ≤ R.locals) (Hr : ∀ (pc : Nat) (L : List (Option Value)), decode mi_Ta_behind.2.1 pc = .ok (.ireturn, 1) → AW l E mi_Ta_behind R B Qf pc L [.int r] h0) (hf : f_Ta_behind h0 o p1 p2 p3 = some r) : AW l E mi_Ta_behind R B Qf 0 [some (va_rf (some o)), some (.int p1), some (.int p2), some (.int p3)] [] h0 := by
  unfold f_Ta_behind at hf
  refine ax_aload_n (i := 0) (some o) dTa_behind_0 rfl rfl ?_
  replace hf := bd1_s hf
  obtain ⟨r1, e_r1, hf⟩ := hf
  refine ax_getR fl_475 rfl dTa_behind_1 e_r1 ?_
  refine ax_iload_n (i := 1) dTa_behind_4 rfl rfl ?_
  refine ax_bipush (16 : Int32) dTa_behind_5 k8_16 ?_
  refine ax_imul dTa_behind_7 ?_
  refine ax_iload_n (i := 2) dTa_behind_8 rfl rfl ?_
  refine ax_bipush (8 : Int32) dTa_behind_9 k8_8 ?_
  refine ax_imul dTa_behind_11 ?_
  refine ax_iadd dTa_behind_12 ?_
  refine ax_iload_n (i := 3) dTa_behind_13 rfl rfl ?_
  refine ax_iadd dTa_behind_14 ?_
  replace hf := bd1_s hf
  obtain ⟨a2, e_d, hf⟩ := hf
  subst e_d
  replace hf := bd1_s hf
  obtain ⟨x3, e_x3, hf⟩ := hf
  refine ax_iald dTa_behind_15 e_x3 ?_
  cases hf
  exact Hr _ _ dTa_behind_16
theorem c_Ta_behind {l : Launch} {E : EN} {h0 : AH} {o : Nat} {p1 : Int32} {p2 : Int32} {p3 : Int32} {r : Int32} (hf : f_Ta_behind h0 o p1 p2 p3 = some r) : AM l E 1 mi_Ta_behind [va_rf (some o), .int p1, .int p2, .int p3] h0 (some (.int r)) h0 :=
  am_of2 [(va_rf (some o), false), (.int p1, false), (.int p2, false), (.int p3, false)] 0 ⟨cat_rf _, rfl, rfl, rfl, trivial⟩ rfl rfl (v_Ta_behind (Nat.le_refl _) (Nat.le_refl _) (fun pc L hd => ax_iret rfl hd rfl) hf)
theorem v_C_next {l : Launch} {E : EN} {R : Room} {B : (Nat × Nat) × (Nat × Nat)} {Qf : QF} {h0 : AH} {o : Nat} {p1 : Int32} {p2 : Int32} {p3 : Int32} {p4 : Int32} {r : Int32} (hR1 : 2 ≤ R.frames) (hR2 : 128 ≤ R.locals) (Hr : ∀ (pc : Nat) (L : List (Option Value)), decode mi_C_next.2.1 pc = .ok (.ireturn, 1) → AW l E mi_C_next R B Qf pc L [.int r] h0) (hf : f_C_next h0 o p1 p2 p3 p4 = some r) : AW l E mi_C_next R B Qf 0 [some (va_rf (some o)), some (.int p1), some (.int p2), some (.int p3), some (.int p4), none] [] h0 := by
  unfold f_C_next at hf
  refine ax_aload_n (i := 0) (some o) dC_next_0 rfl rfl ?_
  refine ax_iload_n (i := 1) dC_next_1 rfl rfl ?_
  replace hf := bd1_s hf
  obtain ⟨r1, e_r1, hf⟩ := hf
  obtain ⟨k_e_r1, e_r1⟩ := cv_s e_r1
  refine ax_callV (As := [.int p1]) (rest := []) (c_C_talkNumbered e_r1) ml_499 cm_C_talkNumbered rfl k_e_r1 (Nat.le_trans (Nat.le_of_ble_eq_true rfl) hR1) (Nat.le_trans (Nat.le_of_ble_eq_true rfl) hR2) rfl rfl (Nat.le_of_ble_eq_true rfl) dC_next_2 ?_
  refine ax_astore (i := 5) (r := r1) [some (va_rf (some o)), some (.int p1), some (.int p2), some (.int p3), some (.int p4), some (va_rf r1)] dC_next_5 (Nat.le_of_ble_eq_true rfl) (Or.inr (c1i rfl)) rfl ?_
  refine ax_aload (i := 5) r1 dC_next_7 rfl ?_
  replace hf := onl_s hf
  rcases hf with ⟨e_d, hf⟩ | ⟨a2, e_d, hf⟩
  · subst e_d
    refine ax_ifnullT 21 dC_next_9 (by decide) ?_
    refine ax_bipush (-101 : Int32) dC_next_21 k8_m101 ?_
    cases hf
    exact Hr _ _ dC_next_23
  · subst e_d
    refine ax_ifnullF dC_next_9 ?_
    refine ax_aload (i := 5) (some a2) dC_next_12 rfl ?_
    refine ax_iload_n (i := 2) dC_next_14 rfl rfl ?_
    replace hf := bd1_s hf
    obtain ⟨x3, e_x3, hf⟩ := hf
    obtain ⟨k_e_x3, e_x3⟩ := cv_s e_x3
    refine ax_callV (As := [.int p2]) (rest := []) (c_Ta_has e_x3) ml_507 cm_Ta_has rfl k_e_x3 (Nat.le_trans (Nat.le_of_ble_eq_true rfl) hR1) (Nat.le_trans (Nat.le_of_ble_eq_true rfl) hR2) rfl rfl (Nat.le_of_ble_eq_true rfl) dC_next_15 ?_
    replace hf := ite_c hf
    rcases hf with ⟨hc, hf⟩ | ⟨hc, hf⟩
    · refine ax_if_neF 24 dC_next_18 (by decide) hc ?_
      refine ax_bipush (-101 : Int32) dC_next_21 k8_m101 ?_
      cases hf
      exact Hr _ _ dC_next_23
    · refine ax_if_neT 24 dC_next_18 (by decide) hc ?_
      refine ax_iload_n (i := 3) dC_next_24 rfl rfl ?_
      replace hf := bd1_s hf
      obtain ⟨x4, e_x4, hf⟩ := hf
      refine ax_callS (As := [.int p3]) (rest := []) (c_C_isSign e_x4) ml_511 cm_C_isSign (Nat.le_trans (Nat.le_of_ble_eq_true rfl) hR1) (Nat.le_trans (Nat.le_of_ble_eq_true rfl) hR2) rfl rfl (Nat.le_of_ble_eq_true rfl) dC_next_25 ?_
      replace hf := ite_c hf
      rcases hf with ⟨hc, hf⟩ | ⟨hc, hf⟩
      · refine ax_if_eqT 39 dC_next_28 (by decide) hc ?_
        refine ax_bipush (-102 : Int32) dC_next_39 k8_m102 ?_
        cases hf
        exact Hr _ _ dC_next_41
      · refine ax_if_eqF 39 dC_next_28 (by decide) hc ?_
        refine ax_iload (i := 4) dC_next_31 rfl ?_
        replace hf := bd1_s hf
        obtain ⟨x5, e_x5, hf⟩ := hf
        refine ax_callS (As := [.int p4]) (rest := []) (c_C_isMessage e_x5) ml_514 cm_C_isMessage (Nat.le_trans (Nat.le_of_ble_eq_true rfl) hR1) (Nat.le_trans (Nat.le_of_ble_eq_true rfl) hR2) rfl rfl (Nat.le_of_ble_eq_true rfl) dC_next_33 ?_
        replace hf := ite_c hf
        rcases hf with ⟨hc, hf⟩ | ⟨hc, hf⟩
        · refine ax_if_neF 42 dC_next_36 (by decide) hc ?_
          refine ax_bipush (-102 : Int32) dC_next_39 k8_m102 ?_
          cases hf
          exact Hr _ _ dC_next_41
        · refine ax_if_neT 42 dC_next_36 (by decide) hc ?_
          refine ax_aload (i := 5) (some a2) dC_next_42 rfl ?_
          refine ax_iload_n (i := 2) dC_next_44 rfl rfl ?_
          refine ax_iload_n (i := 3) dC_next_45 rfl rfl ?_
          refine ax_iload (i := 4) dC_next_46 rfl ?_
          replace hf := bd1_s hf
          obtain ⟨x6, e_x6, hf⟩ := hf
          obtain ⟨k_e_x6, e_x6⟩ := cv_s e_x6
          refine ax_callV (As := [.int p2, .int p3, .int p4]) (rest := []) (c_Ta_behind e_x6) ml_515 cm_Ta_behind rfl k_e_x6 (Nat.le_trans (Nat.le_of_ble_eq_true rfl) hR1) (Nat.le_trans (Nat.le_of_ble_eq_true rfl) hR2) rfl rfl (Nat.le_of_ble_eq_true rfl) dC_next_48 ?_
          cases hf
          exact Hr _ _ dC_next_51
theorem c_C_next {l : Launch} {E : EN} {h0 : AH} {o : Nat} {p1 : Int32} {p2 : Int32} {p3 : Int32} {p4 : Int32} {r : Int32} (hf : f_C_next h0 o p1 p2 p3 p4 = some r) : AM l E 2 mi_C_next [va_rf (some o), .int p1, .int p2, .int p3, .int p4] h0 (some (.int r)) h0 :=
  am_of2 [(va_rf (some o), false), (.int p1, false), (.int p2, false), (.int p3, false), (.int p4, false)] 1 ⟨cat_rf _, rfl, rfl, rfl, rfl, trivial⟩ rfl rfl (v_C_next (Nat.le_refl _) (Nat.le_refl _) (fun pc L hd => ax_iret rfl hd rfl) hf)
theorem v_Ta_mayEnd {l : Launch} {E : EN} {R : Room} {B : (Nat × Nat) × (Nat × Nat)} {Qf : QF} {h0 : AH} {o : Nat} {p1 : Int32} {r : Int32} (hR1 : 1 ≤ R.frames) (hR2 : 64 ≤ R.locals) (Hr : (r = 0 ∨ r = 1) → ∀ (pc : Nat) (L : List (Option Value)), decode mi_Ta_mayEnd.2.1 pc = .ok (.ireturn, 1) → AW l E mi_Ta_mayEnd R B Qf pc L [.int r] h0) (hf : f_Ta_mayEnd h0 o p1 = some r) : AW l E mi_Ta_mayEnd R B Qf 0 [some (va_rf (some o)), some (.int p1)] [] h0 := by
  unfold f_Ta_mayEnd at hf
  refine ax_aload_n (i := 0) (some o) dTa_mayEnd_0 rfl rfl ?_
  replace hf := bd1_s hf
  obtain ⟨x1, e_x1, hf⟩ := hf
  refine ax_getI fl_474 rfl dTa_mayEnd_1 e_x1 ?_
  refine ax_iload_n (i := 1) dTa_mayEnd_4 rfl rfl ?_
  refine ax_ishr dTa_mayEnd_5 ?_
  refine ax_iconst (1 : Int32) dTa_mayEnd_6 k32_1 ?_
  refine ax_iand dTa_mayEnd_7 ?_
  replace hf := ite_c hf
  rcases hf with ⟨hc, hf⟩ | ⟨hc, hf⟩
  · refine ax_if_eqT 15 dTa_mayEnd_8 (by decide) hc ?_
    refine ax_iconst (0 : Int32) dTa_mayEnd_15 k32_0 ?_
    cases hf
    exact Hr (Or.inl rfl) _ _ dTa_mayEnd_16
  · refine ax_if_eqF 15 dTa_mayEnd_8 (by decide) hc ?_
    refine ax_iconst (1 : Int32) dTa_mayEnd_11 k32_1 ?_
    refine ax_goto 16 dTa_mayEnd_12 (by decide) ?_
    cases hf
    exact Hr (Or.inr rfl) _ _ dTa_mayEnd_16
theorem c_Ta_mayEnd {l : Launch} {E : EN} {h0 : AH} {o : Nat} {p1 : Int32} {r : Int32} (hf : f_Ta_mayEnd h0 o p1 = some r) : AM l E 1 mi_Ta_mayEnd [va_rf (some o), .int p1] h0 (some (.int r)) h0 :=
  am_of2 [(va_rf (some o), false), (.int p1, false)] 0 ⟨cat_rf _, rfl, trivial⟩ rfl rfl (v_Ta_mayEnd (Nat.le_refl _) (Nat.le_refl _) (fun hz pc L hd => ax_zret rfl hz hd rfl) hf)
theorem v_C_ends {l : Launch} {E : EN} {R : Room} {B : (Nat × Nat) × (Nat × Nat)} {Qf : QF} {h0 : AH} {o : Nat} {p1 : Int32} {p2 : Int32} {r : Int32} (hR1 : 2 ≤ R.frames) (hR2 : 128 ≤ R.locals) (Hr : ∀ (pc : Nat) (L : List (Option Value)), decode mi_C_ends.2.1 pc = .ok (.ireturn, 1) → AW l E mi_C_ends R B Qf pc L [.int r] h0) (hf : f_C_ends h0 o p1 p2 = some r) : AW l E mi_C_ends R B Qf 0 [some (va_rf (some o)), some (.int p1), some (.int p2), none] [] h0 := by
  unfold f_C_ends at hf
  refine ax_aload_n (i := 0) (some o) dC_ends_0 rfl rfl ?_
  refine ax_iload_n (i := 1) dC_ends_1 rfl rfl ?_
  replace hf := bd1_s hf
  obtain ⟨r1, e_r1, hf⟩ := hf
  obtain ⟨k_e_r1, e_r1⟩ := cv_s e_r1
  refine ax_callV (As := [.int p1]) (rest := []) (c_C_talkNumbered e_r1) ml_499 cm_C_talkNumbered rfl k_e_r1 (Nat.le_trans (Nat.le_of_ble_eq_true rfl) hR1) (Nat.le_trans (Nat.le_of_ble_eq_true rfl) hR2) rfl rfl (Nat.le_of_ble_eq_true rfl) dC_ends_2 ?_
  refine ax_astore_n (i := 3) (r := r1) [some (va_rf (some o)), some (.int p1), some (.int p2), some (va_rf r1)] dC_ends_5 rfl (Nat.le_of_ble_eq_true rfl) (Or.inr (c1i rfl)) rfl ?_
  refine ax_aload_n (i := 3) r1 dC_ends_6 rfl rfl ?_
  replace hf := onl_s hf
  rcases hf with ⟨e_d, hf⟩ | ⟨a2, e_d, hf⟩
  · subst e_d
    refine ax_ifnullT 18 dC_ends_7 (by decide) ?_
    refine ax_bipush (-101 : Int32) dC_ends_18 k8_m101 ?_
    cases hf
    exact Hr _ _ dC_ends_20
  · subst e_d
    refine ax_ifnullF dC_ends_7 ?_
    refine ax_aload_n (i := 3) (some a2) dC_ends_10 rfl rfl ?_
    refine ax_iload_n (i := 2) dC_ends_11 rfl rfl ?_
    replace hf := bd1_s hf
    obtain ⟨x3, e_x3, hf⟩ := hf
    obtain ⟨k_e_x3, e_x3⟩ := cv_s e_x3
    refine ax_callV (As := [.int p2]) (rest := []) (c_Ta_has e_x3) ml_507 cm_Ta_has rfl k_e_x3 (Nat.le_trans (Nat.le_of_ble_eq_true rfl) hR1) (Nat.le_trans (Nat.le_of_ble_eq_true rfl) hR2) rfl rfl (Nat.le_of_ble_eq_true rfl) dC_ends_12 ?_
    replace hf := ite_c hf
    rcases hf with ⟨hc, hf⟩ | ⟨hc, hf⟩
    · refine ax_if_neF 21 dC_ends_15 (by decide) hc ?_
      refine ax_bipush (-101 : Int32) dC_ends_18 k8_m101 ?_
      cases hf
      exact Hr _ _ dC_ends_20
    · refine ax_if_neT 21 dC_ends_15 (by decide) hc ?_
      refine ax_aload_n (i := 3) (some a2) dC_ends_21 rfl rfl ?_
      refine ax_iload_n (i := 2) dC_ends_22 rfl rfl ?_
      replace hf := bd1_s hf
      obtain ⟨x4, e_x4, hf⟩ := hf
      obtain ⟨k_e_x4, e_x4⟩ := cv_s e_x4
      refine ax_callV (As := [.int p2]) (rest := []) (c_Ta_mayEnd e_x4) ml_523 cm_Ta_mayEnd rfl k_e_x4 (Nat.le_trans (Nat.le_of_ble_eq_true rfl) hR1) (Nat.le_trans (Nat.le_of_ble_eq_true rfl) hR2) rfl rfl (Nat.le_of_ble_eq_true rfl) dC_ends_23 ?_
      replace hf := ite_c hf
      rcases hf with ⟨hc, hf⟩ | ⟨hc, hf⟩
      · refine ax_if_eqT 33 dC_ends_26 (by decide) hc ?_
        refine ax_iconst (0 : Int32) dC_ends_33 k32_0 ?_
        cases hf
        exact Hr _ _ dC_ends_34
      · refine ax_if_eqF 33 dC_ends_26 (by decide) hc ?_
        refine ax_iconst (1 : Int32) dC_ends_29 k32_1 ?_
        refine ax_goto 34 dC_ends_30 (by decide) ?_
        cases hf
        exact Hr _ _ dC_ends_34
theorem c_C_ends {l : Launch} {E : EN} {h0 : AH} {o : Nat} {p1 : Int32} {p2 : Int32} {r : Int32} (hf : f_C_ends h0 o p1 p2 = some r) : AM l E 2 mi_C_ends [va_rf (some o), .int p1, .int p2] h0 (some (.int r)) h0 :=
  am_of2 [(va_rf (some o), false), (.int p1, false), (.int p2, false)] 1 ⟨cat_rf _, rfl, rfl, trivial⟩ rfl rfl (v_C_ends (Nat.le_refl _) (Nat.le_refl _) (fun pc L hd => ax_iret rfl hd rfl) hf)
theorem w_Ta_messagesOf_L4 {l : Launch} {E : EN} {R : Room} {B : (Nat × Nat) × (Nat × Nat)} {Qf : QF} {h0 : AH} {r : Int32} (hR1 : 1 ≤ R.frames) (hR2 : 64 ≤ R.locals) (Hr : ∀ (pc : Nat) (L : List (Option Value)), decode mi_Ta_messagesOf.2.1 pc = .ok (.ireturn, 1) → AW l E mi_Ta_messagesOf R B Qf pc L [.int r] h0) {y0 : Nat} {y1 : Int32} : ∀ (n : Nat) (z2 : Int32) (z3 : Int32), f_Ta_messagesOf_L4 h0 y0 y1 n z2 z3 = some r → AW l E mi_Ta_messagesOf R B Qf 4 [some (va_rf (some y0)), some (.int y1), some (.int z2), some (.int z3)] [] h0 := by
  intro n
  induction n with
  | zero => intro z2 z3 hf; cases hf
  | succ n ih =>
    intro z2 z3 hf
    rw [f_Ta_messagesOf_L4] at hf
    refine ax_iload_n (i := 3) dTa_messagesOf_4 rfl rfl ?_
    refine ax_aload_n (i := 0) (some y0) dTa_messagesOf_5 rfl rfl ?_
    replace hf := bd1_s hf
    obtain ⟨x1, e_x1, hf⟩ := hf
    refine ax_getI fl_471 rfl dTa_messagesOf_6 e_x1 ?_
    replace hf := ite_c hf
    rcases hf with ⟨hc, hf⟩ | ⟨hc, hf⟩
    · refine ax_icmp_gtT 40 dTa_messagesOf_9 (by decide) hc ?_
      refine ax_iload_n (i := 2) dTa_messagesOf_40 rfl rfl ?_
      cases hf
      exact Hr _ _ dTa_messagesOf_41
    · refine ax_icmp_gtF 40 dTa_messagesOf_9 (by decide) hc ?_
      refine ax_iload_n (i := 2) dTa_messagesOf_12 rfl rfl ?_
      refine ax_iload_n (i := 1) dTa_messagesOf_13 rfl rfl ?_
      replace hf := bd1_s hf
      obtain ⟨x8, hT, hf⟩ := hf
      have K : AW l E mi_Ta_messagesOf R B Qf 32 [some (va_rf (some y0)), some (.int y1), none, some (.int z3)] [.int x8, .int z2] h0 := by
        clear hT
        refine ax_ior dTa_messagesOf_32 ?_
        replace hf := bd1_s hf
        obtain ⟨x9, e_x9, hf⟩ := hf
        refine ax_nmI (Option.some.inj e_x9) ?_
        refine ax_istore_n (i := 2) [some (va_rf (some y0)), some (.int y1), some (.int x9), some (.int z3)] dTa_messagesOf_33 rfl (Nat.le_of_ble_eq_true rfl) (Or.inr (c1i rfl)) rfl ?_
        refine ax_iinc (i := 3) (z3 + (1 : Int32)) [some (va_rf (some y0)), some (.int y1), some (.int x9), some (.int (z3 + (1 : Int32)))] dTa_messagesOf_34 rfl (iic k32_1) (Or.inr (c1i rfl)) rfl ?_
        refine ax_goto 4 dTa_messagesOf_37 (by decide) ?_
        exact ih x9 (z3 + (1 : Int32)) hf
      replace hf := hT
      clear hT
      replace hf := ite_c hf
      rcases hf with ⟨hc, hf⟩ | ⟨hc, hf⟩
      · refine ax_if_neF 26 dTa_messagesOf_14 (by decide) hc ?_
        refine ax_aload_n (i := 0) (some y0) dTa_messagesOf_17 rfl rfl ?_
        replace hf := bd1_s hf
        obtain ⟨r5, e_r5, hf⟩ := hf
        refine ax_getR fl_476 rfl dTa_messagesOf_18 e_r5 ?_
        refine ax_iload_n (i := 3) dTa_messagesOf_21 rfl rfl ?_
        replace hf := bd1_s hf
        obtain ⟨a6, e_d, hf⟩ := hf
        subst e_d
        replace hf := bd1_s hf
        obtain ⟨x7, e_x7, hf⟩ := hf
        refine ax_iald dTa_messagesOf_22 e_x7 ?_
        refine ax_goto 32 dTa_messagesOf_23 (by decide) ?_
        refine ax_mask [true, true, false, true] rfl [some (va_rf (some y0)), some (.int y1), none, some (.int z3)] rfl ?_
        cases hf
        exact K
      · refine ax_if_neT 26 dTa_messagesOf_14 (by decide) hc ?_
        refine ax_aload_n (i := 0) (some y0) dTa_messagesOf_26 rfl rfl ?_
        replace hf := bd1_s hf
        obtain ⟨r2, e_r2, hf⟩ := hf
        refine ax_getR fl_480 rfl dTa_messagesOf_27 e_r2 ?_
        refine ax_iload_n (i := 3) dTa_messagesOf_30 rfl rfl ?_
        replace hf := bd1_s hf
        obtain ⟨a3, e_d, hf⟩ := hf
        subst e_d
        replace hf := bd1_s hf
        obtain ⟨x4, e_x4, hf⟩ := hf
        refine ax_iald dTa_messagesOf_31 e_x4 ?_
        refine ax_mask [true, true, false, true] rfl [some (va_rf (some y0)), some (.int y1), none, some (.int z3)] rfl ?_
        cases hf
        exact K
theorem v_Ta_messagesOf {l : Launch} {E : EN} {R : Room} {B : (Nat × Nat) × (Nat × Nat)} {Qf : QF} {h0 : AH} {o : Nat} {p1 : Int32} {r : Int32} (hR1 : 1 ≤ R.frames) (hR2 : 64 ≤ R.locals) (Hr : ∀ (pc : Nat) (L : List (Option Value)), decode mi_Ta_messagesOf.2.1 pc = .ok (.ireturn, 1) → AW l E mi_Ta_messagesOf R B Qf pc L [.int r] h0) (hf : f_Ta_messagesOf h0 o p1 = some r) : AW l E mi_Ta_messagesOf R B Qf 0 [some (va_rf (some o)), some (.int p1), none, none] [] h0 := by
  unfold f_Ta_messagesOf at hf
  refine ax_iconst (0 : Int32) dTa_messagesOf_0 k32_0 ?_
  refine ax_istore_n (i := 2) [some (va_rf (some o)), some (.int p1), some (.int (0 : Int32)), none] dTa_messagesOf_1 rfl (Nat.le_of_ble_eq_true rfl) (Or.inr (c1i rfl)) rfl ?_
  refine ax_iconst (0 : Int32) dTa_messagesOf_2 k32_0 ?_
  refine ax_istore_n (i := 3) [some (va_rf (some o)), some (.int p1), some (.int (0 : Int32)), some (.int (0 : Int32))] dTa_messagesOf_3 rfl (Nat.le_of_ble_eq_true rfl) (Or.inr (c1i rfl)) rfl ?_
  refine w_Ta_messagesOf_L4 hR1 hR2 Hr FU (0 : Int32) (0 : Int32) hf
theorem c_Ta_messagesOf {l : Launch} {E : EN} {h0 : AH} {o : Nat} {p1 : Int32} {r : Int32} (hf : f_Ta_messagesOf h0 o p1 = some r) : AM l E 1 mi_Ta_messagesOf [va_rf (some o), .int p1] h0 (some (.int r)) h0 :=
  am_of2 [(va_rf (some o), false), (.int p1, false)] 2 ⟨cat_rf _, rfl, trivial⟩ rfl rfl (v_Ta_messagesOf (Nat.le_refl _) (Nat.le_refl _) (fun pc L hd => ax_iret rfl hd rfl) hf)
theorem v_C_uses {l : Launch} {E : EN} {R : Room} {B : (Nat × Nat) × (Nat × Nat)} {Qf : QF} {h0 : AH} {o : Nat} {p1 : Int32} {p2 : Int32} {r : Int32} (hR1 : 2 ≤ R.frames) (hR2 : 128 ≤ R.locals) (Hr : ∀ (pc : Nat) (L : List (Option Value)), decode mi_C_uses.2.1 pc = .ok (.ireturn, 1) → AW l E mi_C_uses R B Qf pc L [.int r] h0) (hf : f_C_uses h0 o p1 p2 = some r) : AW l E mi_C_uses R B Qf 0 [some (va_rf (some o)), some (.int p1), some (.int p2), none] [] h0 := by
  unfold f_C_uses at hf
  refine ax_aload_n (i := 0) (some o) dC_uses_0 rfl rfl ?_
  refine ax_iload_n (i := 1) dC_uses_1 rfl rfl ?_
  replace hf := bd1_s hf
  obtain ⟨r1, e_r1, hf⟩ := hf
  obtain ⟨k_e_r1, e_r1⟩ := cv_s e_r1
  refine ax_callV (As := [.int p1]) (rest := []) (c_C_talkNumbered e_r1) ml_499 cm_C_talkNumbered rfl k_e_r1 (Nat.le_trans (Nat.le_of_ble_eq_true rfl) hR1) (Nat.le_trans (Nat.le_of_ble_eq_true rfl) hR2) rfl rfl (Nat.le_of_ble_eq_true rfl) dC_uses_2 ?_
  refine ax_astore_n (i := 3) (r := r1) [some (va_rf (some o)), some (.int p1), some (.int p2), some (va_rf r1)] dC_uses_5 rfl (Nat.le_of_ble_eq_true rfl) (Or.inr (c1i rfl)) rfl ?_
  refine ax_aload_n (i := 3) r1 dC_uses_6 rfl rfl ?_
  replace hf := onl_s hf
  rcases hf with ⟨e_d, hf⟩ | ⟨a2, e_d, hf⟩
  · subst e_d
    refine ax_ifnonnullF dC_uses_7 ?_
    refine ax_bipush (-101 : Int32) dC_uses_10 k8_m101 ?_
    cases hf
    exact Hr _ _ dC_uses_12
  · subst e_d
    refine ax_ifnonnullT 13 dC_uses_7 (by decide) ?_
    refine ax_iload_n (i := 2) dC_uses_13 rfl rfl ?_
    replace hf := bd1_s hf
    obtain ⟨x3, e_x3, hf⟩ := hf
    refine ax_callS (As := [.int p2]) (rest := []) (c_C_isSign e_x3) ml_511 cm_C_isSign (Nat.le_trans (Nat.le_of_ble_eq_true rfl) hR1) (Nat.le_trans (Nat.le_of_ble_eq_true rfl) hR2) rfl rfl (Nat.le_of_ble_eq_true rfl) dC_uses_14 ?_
    replace hf := ite_c hf
    rcases hf with ⟨hc, hf⟩ | ⟨hc, hf⟩
    · refine ax_if_neF 23 dC_uses_17 (by decide) hc ?_
      refine ax_bipush (-102 : Int32) dC_uses_20 k8_m102 ?_
      cases hf
      exact Hr _ _ dC_uses_22
    · refine ax_if_neT 23 dC_uses_17 (by decide) hc ?_
      refine ax_aload_n (i := 3) (some a2) dC_uses_23 rfl rfl ?_
      refine ax_iload_n (i := 2) dC_uses_24 rfl rfl ?_
      replace hf := bd1_s hf
      obtain ⟨x4, e_x4, hf⟩ := hf
      obtain ⟨k_e_x4, e_x4⟩ := cv_s e_x4
      refine ax_callV (As := [.int p2]) (rest := []) (c_Ta_messagesOf e_x4) ml_531 cm_Ta_messagesOf rfl k_e_x4 (Nat.le_trans (Nat.le_of_ble_eq_true rfl) hR1) (Nat.le_trans (Nat.le_of_ble_eq_true rfl) hR2) rfl rfl (Nat.le_of_ble_eq_true rfl) dC_uses_25 ?_
      cases hf
      exact Hr _ _ dC_uses_28
theorem c_C_uses {l : Launch} {E : EN} {h0 : AH} {o : Nat} {p1 : Int32} {p2 : Int32} {r : Int32} (hf : f_C_uses h0 o p1 p2 = some r) : AM l E 2 mi_C_uses [va_rf (some o), .int p1, .int p2] h0 (some (.int r)) h0 :=
  am_of2 [(va_rf (some o), false), (.int p1, false), (.int p2, false)] 1 ⟨cat_rf _, rfl, rfl, trivial⟩ rfl rfl (v_C_uses (Nat.le_refl _) (Nat.le_refl _) (fun pc L hd => ax_iret rfl hd rfl) hf)
theorem w_Wa_reach_L12 {l : Launch} {E : EN} {R : Room} {B : (Nat × Nat) × (Nat × Nat)} {Qf : QF} {h0 : AH} {hF : AH} (hR1 : 1 ≤ R.frames) (hR2 : 64 ≤ R.locals) (Hr : ∀ (pc : Nat) (L : List (Option Value)), decode mi_Wa_reach.2.1 pc = .ok (.return_, 1) → AW l E mi_Wa_reach R B Qf pc L [] hF) {y0 : Nat} {y1 : Int32} {y2 : Int32} {y3 : Int32} {k : Int32 → Option (AH)} (hk : ∀ (z4 : Int32), k z4 = some hF → AW l E mi_Wa_reach R B Qf 65 [some (va_rf (some y0)), some (.int y1), some (.int y2), some (.int y3), some (.int z4), none] [] h0) : ∀ (n : Nat) (z4 : Int32) (z5 : Int32), f_Wa_reach_L12 h0 y0 y1 y2 y3 k n z4 z5 = some hF → AW l E mi_Wa_reach R B Qf 12 [some (va_rf (some y0)), some (.int y1), some (.int y2), some (.int y3), some (.int z4), some (.int z5)] [] h0 := by
  intro n
  induction n with
  | zero => intro z4 z5 hf; cases hf
  | succ n ih =>
    intro z4 z5 hf
    rw [f_Wa_reach_L12] at hf
    refine ax_iload (i := 5) dWa_reach_12 rfl ?_
    refine ax_sipush (8192 : Int32) dWa_reach_14 k16_8192 ?_
    replace hf := ite_c hf
    rcases hf with ⟨hc, hf⟩ | ⟨hc, hf⟩
    · refine ax_icmp_geF 65 dWa_reach_17 (by decide) hc ?_
      refine ax_aload_n (i := 0) (some y0) dWa_reach_20 rfl rfl ?_
      replace hf := bd1_s hf
      obtain ⟨r2, e_r2, hf⟩ := hf
      refine ax_getR fl_121 rfl dWa_reach_21 e_r2 ?_
      refine ax_iload (i := 4) dWa_reach_24 rfl ?_
      replace hf := bd1_s hf
      obtain ⟨a3, e_d, hf⟩ := hf
      subst e_d
      replace hf := bd1_s hf
      obtain ⟨x4, e_x4, hf⟩ := hf
      refine ax_iald dWa_reach_26 e_x4 ?_
      replace hf := ite_c hf
      rcases hf with ⟨hc, hf⟩ | ⟨hc, hf⟩
      · refine ax_if_eqT 65 dWa_reach_27 (by decide) hc ?_
        refine ax_mask [true, true, true, true, true, false] rfl [some (va_rf (some y0)), some (.int y1), some (.int y2), some (.int y3), some (.int z4), none] rfl ?_
        exact hk z4 hf
      · refine ax_if_eqF 65 dWa_reach_27 (by decide) hc ?_
        refine ax_aload_n (i := 0) (some y0) dWa_reach_30 rfl rfl ?_
        replace hf := bd1_s hf
        obtain ⟨r5, e_r5, hf⟩ := hf
        refine ax_getR fl_116 rfl dWa_reach_31 e_r5 ?_
        refine ax_aload_n (i := 0) (some y0) dWa_reach_34 rfl rfl ?_
        replace hf := bd1_s hf
        obtain ⟨r6, e_r6, hf⟩ := hf
        refine ax_getR fl_121 rfl dWa_reach_35 e_r6 ?_
        refine ax_iload (i := 4) dWa_reach_38 rfl ?_
        replace hf := bd1_s hf
        obtain ⟨a7, e_d, hf⟩ := hf
        subst e_d
        replace hf := bd1_s hf
        obtain ⟨x8, e_x8, hf⟩ := hf
        refine ax_iald dWa_reach_40 e_x8 ?_
        refine ax_iconst (1 : Int32) dWa_reach_41 k32_1 ?_
        refine ax_isub dWa_reach_42 ?_
        replace hf := bd1_s hf
        obtain ⟨a9, e_d, hf⟩ := hf
        subst e_d
        replace hf := bd1_s hf
        obtain ⟨x10, e_x10, hf⟩ := hf
        refine ax_iald dWa_reach_43 e_x10 ?_
        refine ax_iload_n (i := 1) dWa_reach_44 rfl rfl ?_
        replace hf := ite_c hf
        rcases hf with ⟨hc, hf⟩ | ⟨hc, hf⟩
        · refine ax_icmp_neF 49 dWa_reach_45 (by decide) hc ?_
          cases hf
          exact Hr _ _ dWa_reach_48
        · refine ax_icmp_neT 49 dWa_reach_45 (by decide) hc ?_
          refine ax_iload (i := 4) dWa_reach_49 rfl ?_
          refine ax_iconst (1 : Int32) dWa_reach_51 k32_1 ?_
          refine ax_iadd dWa_reach_52 ?_
          refine ax_sipush (8191 : Int32) dWa_reach_53 k16_8191 ?_
          refine ax_iand dWa_reach_56 ?_
          replace hf := bd1_s hf
          obtain ⟨x11, e_x11, hf⟩ := hf
          refine ax_nmI (Option.some.inj e_x11) ?_
          refine ax_istore (i := 4) [some (va_rf (some y0)), some (.int y1), some (.int y2), some (.int y3), some (.int x11), some (.int z5)] dWa_reach_57 (Nat.le_of_ble_eq_true rfl) (Or.inr (c1i rfl)) rfl ?_
          refine ax_iinc (i := 5) (z5 + (1 : Int32)) [some (va_rf (some y0)), some (.int y1), some (.int y2), some (.int y3), some (.int x11), some (.int (z5 + (1 : Int32)))] dWa_reach_59 rfl (iic k32_1) (Or.inr (c1i rfl)) rfl ?_
          refine ax_goto 12 dWa_reach_62 (by decide) ?_
          exact ih x11 (z5 + (1 : Int32)) hf
    · refine ax_icmp_geT 65 dWa_reach_17 (by decide) hc ?_
      refine ax_mask [true, true, true, true, true, false] rfl [some (va_rf (some y0)), some (.int y1), some (.int y2), some (.int y3), some (.int z4), none] rfl ?_
      exact hk z4 hf
theorem v_Wa_reach {l : Launch} {E : EN} {R : Room} {B : (Nat × Nat) × (Nat × Nat)} {Qf : QF} {h0 : AH} {o : Nat} {p1 : Int32} {p2 : Int32} {p3 : Int32} {hF : AH} (hR1 : 1 ≤ R.frames) (hR2 : 64 ≤ R.locals) (Hr : ∀ (pc : Nat) (L : List (Option Value)), decode mi_Wa_reach.2.1 pc = .ok (.return_, 1) → AW l E mi_Wa_reach R B Qf pc L [] hF) (hf : f_Wa_reach h0 o p1 p2 p3 = some hF) : AW l E mi_Wa_reach R B Qf 0 [some (va_rf (some o)), some (.int p1), some (.int p2), some (.int p3), none, none] [] h0 := by
  unfold f_Wa_reach at hf
  refine ax_iload_n (i := 1) dWa_reach_0 rfl rfl ?_
  refine ax_ldc w_548 dWa_reach_1 ?_
  refine ax_imul dWa_reach_3 ?_
  refine ax_bipush (19 : Int32) dWa_reach_4 k8_19 ?_
  refine ax_iushr dWa_reach_6 ?_
  replace hf := bd1_s hf
  obtain ⟨x1, e_x1, hf⟩ := hf
  refine ax_nmI (Option.some.inj e_x1) ?_
  refine ax_istore (i := 4) [some (va_rf (some o)), some (.int p1), some (.int p2), some (.int p3), some (.int x1), none] dWa_reach_7 (Nat.le_of_ble_eq_true rfl) (Or.inr (c1i rfl)) rfl ?_
  refine ax_iconst (0 : Int32) dWa_reach_9 k32_0 ?_
  refine ax_istore (i := 5) [some (va_rf (some o)), some (.int p1), some (.int p2), some (.int p3), some (.int x1), some (.int (0 : Int32))] dWa_reach_10 (Nat.le_of_ble_eq_true rfl) (Or.inr (c1i rfl)) rfl ?_
  refine w_Wa_reach_L12 hR1 hR2 Hr (fun x12 hf => ?_) FU x1 (0 : Int32) hf
  refine ax_aload_n (i := 0) (some o) dWa_reach_65 rfl rfl ?_
  replace hf := bd1_s hf
  obtain ⟨x13, e_x13, hf⟩ := hf
  refine ax_getI fl_119 rfl dWa_reach_66 e_x13 ?_
  refine ax_sipush (4000 : Int32) dWa_reach_69 k16_4000 ?_
  replace hf := ite_c hf
  rcases hf with ⟨hc, hf⟩ | ⟨hc, hf⟩
  · refine ax_icmp_ltT 81 dWa_reach_72 (by decide) hc ?_
    refine ax_aload_n (i := 0) (some o) dWa_reach_81 rfl rfl ?_
    replace hf := bd1_s hf
    obtain ⟨r14, e_r14, hf⟩ := hf
    refine ax_getR fl_116 rfl dWa_reach_82 e_r14 ?_
    refine ax_aload_n (i := 0) (some o) dWa_reach_85 rfl rfl ?_
    replace hf := bd1_s hf
    obtain ⟨x15, e_x15, hf⟩ := hf
    refine ax_getI fl_119 rfl dWa_reach_86 e_x15 ?_
    refine ax_iload_n (i := 1) dWa_reach_89 rfl rfl ?_
    replace hf := bd1_s hf
    obtain ⟨a16, e_d, hf⟩ := hf
    subst e_d
    replace hf := bd1_s hf
    obtain ⟨h17, e_h17, hf⟩ := hf
    refine ax_iast dWa_reach_90 e_h17 ?_
    refine ax_aload_n (i := 0) (some o) dWa_reach_91 rfl rfl ?_
    replace hf := bd1_s hf
    obtain ⟨r18, e_r18, hf⟩ := hf
    refine ax_getR fl_117 rfl dWa_reach_92 e_r18 ?_
    refine ax_aload_n (i := 0) (some o) dWa_reach_95 rfl rfl ?_
    replace hf := bd1_s hf
    obtain ⟨x19, e_x19, hf⟩ := hf
    refine ax_getI fl_119 rfl dWa_reach_96 e_x19 ?_
    refine ax_iload_n (i := 2) dWa_reach_99 rfl rfl ?_
    replace hf := bd1_s hf
    obtain ⟨a20, e_d, hf⟩ := hf
    subst e_d
    replace hf := bd1_s hf
    obtain ⟨h21, e_h21, hf⟩ := hf
    refine ax_iast dWa_reach_100 e_h21 ?_
    refine ax_aload_n (i := 0) (some o) dWa_reach_101 rfl rfl ?_
    replace hf := bd1_s hf
    obtain ⟨r22, e_r22, hf⟩ := hf
    refine ax_getR fl_118 rfl dWa_reach_102 e_r22 ?_
    refine ax_aload_n (i := 0) (some o) dWa_reach_105 rfl rfl ?_
    replace hf := bd1_s hf
    obtain ⟨x23, e_x23, hf⟩ := hf
    refine ax_getI fl_119 rfl dWa_reach_106 e_x23 ?_
    refine ax_iload_n (i := 3) dWa_reach_109 rfl rfl ?_
    replace hf := bd1_s hf
    obtain ⟨a24, e_d, hf⟩ := hf
    subst e_d
    replace hf := bd1_s hf
    obtain ⟨h25, e_h25, hf⟩ := hf
    refine ax_iast dWa_reach_110 e_h25 ?_
    refine ax_aload_n (i := 0) (some o) dWa_reach_111 rfl rfl ?_
    refine ax_dup dWa_reach_112 rfl ?_
    replace hf := bd1_s hf
    obtain ⟨x26, e_x26, hf⟩ := hf
    refine ax_getI fl_119 rfl dWa_reach_113 e_x26 ?_
    refine ax_iconst (1 : Int32) dWa_reach_116 k32_1 ?_
    refine ax_iadd dWa_reach_117 ?_
    replace hf := bd1_s hf
    obtain ⟨h27, e_h27, hf⟩ := hf
    refine ax_putI fw_119 rfl rfl dWa_reach_118 e_h27 ?_
    refine ax_aload_n (i := 0) (some o) dWa_reach_121 rfl rfl ?_
    replace hf := bd1_s hf
    obtain ⟨r28, e_r28, hf⟩ := hf
    refine ax_getR fl_121 rfl dWa_reach_122 e_r28 ?_
    refine ax_iload (i := 4) dWa_reach_125 rfl ?_
    refine ax_aload_n (i := 0) (some o) dWa_reach_127 rfl rfl ?_
    replace hf := bd1_s hf
    obtain ⟨x29, e_x29, hf⟩ := hf
    refine ax_getI fl_119 rfl dWa_reach_128 e_x29 ?_
    replace hf := bd1_s hf
    obtain ⟨a30, e_d, hf⟩ := hf
    subst e_d
    replace hf := bd1_s hf
    obtain ⟨h31, e_h31, hf⟩ := hf
    refine ax_iast dWa_reach_131 e_h31 ?_
    cases hf
    exact Hr _ _ dWa_reach_132
  · refine ax_icmp_ltF 81 dWa_reach_72 (by decide) hc ?_
    refine ax_aload_n (i := 0) (some o) dWa_reach_75 rfl rfl ?_
    refine ax_iconst (1 : Int32) dWa_reach_76 k32_1 ?_
    replace hf := bd1_s hf
    obtain ⟨h32, e_h32, hf⟩ := hf
    refine ax_putZ fw_122 rfl rfl dWa_reach_77 e_h32 ?_
    cases hf
    exact Hr _ _ dWa_reach_80
theorem c_Wa_reach {l : Launch} {E : EN} {h0 : AH} {o : Nat} {p1 : Int32} {p2 : Int32} {p3 : Int32} {hF : AH} (hf : f_Wa_reach h0 o p1 p2 p3 = some hF) : AM l E 1 mi_Wa_reach [va_rf (some o), .int p1, .int p2, .int p3] h0 none hF :=
  am_of2 [(va_rf (some o), false), (.int p1, false), (.int p2, false), (.int p3, false)] 2 ⟨cat_rf _, rfl, rfl, rfl, trivial⟩ rfl rfl (v_Wa_reach (Nat.le_refl _) (Nat.le_refl _) (fun pc L hd => ax_vret rfl hd rfl) hf)
theorem v_Wa_place {l : Launch} {E : EN} {R : Room} {B : (Nat × Nat) × (Nat × Nat)} {Qf : QF} {h0 : AH} {p1 : Int32} {p2 : Int32} {p3 : Int32} {p4 : Int32} {r : Int32} (hR1 : 1 ≤ R.frames) (hR2 : 64 ≤ R.locals) (Hr : ∀ (pc : Nat) (L : List (Option Value)), decode mi_Wa_place.2.1 pc = .ok (.ireturn, 1) → AW l E mi_Wa_place R B Qf pc L [.int r] h0) (hf : f_Wa_place h0 p1 p2 p3 p4 = some r) : AW l E mi_Wa_place R B Qf 0 [some (.int p1), some (.int p2), some (.int p3), some (.int p4)] [] h0 := by
  unfold f_Wa_place at hf
  refine ax_iload_n (i := 0) dWa_place_0 rfl rfl ?_
  refine ax_iload_n (i := 1) dWa_place_1 rfl rfl ?_
  refine ax_iconst (5 : Int32) dWa_place_2 k32_5 ?_
  refine ax_ishl dWa_place_3 ?_
  refine ax_ior dWa_place_4 ?_
  refine ax_iload_n (i := 2) dWa_place_5 rfl rfl ?_
  refine ax_bipush (10 : Int32) dWa_place_6 k8_10 ?_
  refine ax_ishl dWa_place_8 ?_
  refine ax_ior dWa_place_9 ?_
  refine ax_iload_n (i := 3) dWa_place_10 rfl rfl ?_
  refine ax_bipush (18 : Int32) dWa_place_11 k8_18 ?_
  refine ax_ishl dWa_place_13 ?_
  refine ax_ior dWa_place_14 ?_
  cases hf
  exact Hr _ _ dWa_place_15
theorem c_Wa_place {l : Launch} {E : EN} {h0 : AH} {p1 : Int32} {p2 : Int32} {p3 : Int32} {p4 : Int32} {r : Int32} (hf : f_Wa_place h0 p1 p2 p3 p4 = some r) : AM l E 1 mi_Wa_place [.int p1, .int p2, .int p3, .int p4] h0 (some (.int r)) h0 :=
  am_of2 [(.int p1, false), (.int p2, false), (.int p3, false), (.int p4, false)] 0 ⟨rfl, rfl, rfl, rfl, trivial⟩ rfl rfl (v_Wa_place (Nat.le_refl _) (Nat.le_refl _) (fun pc L hd => ax_iret rfl hd rfl) hf)
theorem w_Wa_passFrom_L67 {l : Launch} {E : EN} {R : Room} {B : (Nat × Nat) × (Nat × Nat)} {Qf : QF} {ρ : Type} {res : ρ} (hR1 : 2 ≤ R.frames) (hR2 : 128 ≤ R.locals) {y0 : Nat} {y1 : Int32} {y2 : Int32} {y3 : Int32} {y4 : Int32} {y5 : Int32} {k : AH → Option (ρ)} (hk : ∀ (h : AH), k h = some res → AW l E mi_Wa_passFrom R B Qf 174 [some (va_rf (some y0)), none, some (.int y2), some (.int y3), some (.int y4), some (.int y5), none] [] h) : ∀ (n : Nat) (z6 : Int32) (h : AH), f_Wa_passFrom_L67 y0 y1 y2 y3 y4 y5 k n z6 h = some res → AW l E mi_Wa_passFrom R B Qf 67 [some (va_rf (some y0)), some (.int y1), some (.int y2), some (.int y3), some (.int y4), some (.int y5), some (.int z6)] [] h := by
  intro n
  induction n with
  | zero => intro z6 h hf; cases hf
  | succ n ih =>
    intro z6 h hf
    rw [f_Wa_passFrom_L67] at hf
    refine ax_iload (i := 6) dWa_passFrom_67 rfl ?_
    refine ax_bipush (8 : Int32) dWa_passFrom_69 k8_8 ?_
    replace hf := ite_c hf
    rcases hf with ⟨hc, hf⟩ | ⟨hc, hf⟩
    · refine ax_icmp_geF 174 dWa_passFrom_71 (by decide) hc ?_
      refine ax_iload (i := 4) dWa_passFrom_74 rfl ?_
      refine ax_iload (i := 6) dWa_passFrom_76 rfl ?_
      replace hf := bd1_s hf
      obtain ⟨x31, e_x31, hf⟩ := hf
      refine ax_callS (As := [.int y4, .int z6]) (rest := []) (c_C_hasBit e_x31) ml_553 cm_C_hasBit (Nat.le_trans (Nat.le_of_ble_eq_true rfl) hR1) (Nat.le_trans (Nat.le_of_ble_eq_true rfl) hR2) rfl rfl (Nat.le_of_ble_eq_true rfl) dWa_passFrom_78 ?_
      replace hf := bd1_s hf
      obtain ⟨h40, hT, hf⟩ := hf
      have K : AW l E mi_Wa_passFrom R B Qf 120 [some (va_rf (some y0)), some (.int y1), some (.int y2), some (.int y3), some (.int y4), some (.int y5), some (.int z6)] [] h40 := by
        clear hT
        refine ax_iload (i := 5) dWa_passFrom_120 rfl ?_
        refine ax_iload (i := 6) dWa_passFrom_122 rfl ?_
        replace hf := bd1_s hf
        obtain ⟨x41, e_x41, hf⟩ := hf
        refine ax_callS (As := [.int y5, .int z6]) (rest := []) (c_C_hasBit e_x41) ml_553 cm_C_hasBit (Nat.le_trans (Nat.le_of_ble_eq_true rfl) hR1) (Nat.le_trans (Nat.le_of_ble_eq_true rfl) hR2) rfl rfl (Nat.le_of_ble_eq_true rfl) dWa_passFrom_124 ?_
        replace hf := ite_c hf
        rcases hf with ⟨hc, hf⟩ | ⟨hc, hf⟩
        · refine ax_if_eqT 168 dWa_passFrom_127 (by decide) hc ?_
          refine ax_iinc (i := 6) (z6 + (1 : Int32)) [some (va_rf (some y0)), some (.int y1), some (.int y2), some (.int y3), some (.int y4), some (.int y5), some (.int (z6 + (1 : Int32)))] dWa_passFrom_168 rfl (iic k32_1) (Or.inr (c1i rfl)) rfl ?_
          refine ax_goto 67 dWa_passFrom_171 (by decide) ?_
          exact ih (z6 + (1 : Int32)) h40 hf
        · refine ax_if_eqF 168 dWa_passFrom_127 (by decide) hc ?_
          refine ax_aload_n (i := 0) (some y0) dWa_passFrom_130 rfl rfl ?_
          refine ax_aload_n (i := 0) (some y0) dWa_passFrom_131 rfl rfl ?_
          replace hf := bd1_s hf
          obtain ⟨r42, e_r42, hf⟩ := hf
          refine ax_getR fl_125 rfl dWa_passFrom_132 e_r42 ?_
          refine ax_iload_n (i := 2) dWa_passFrom_135 rfl rfl ?_
          refine ax_iconst (0 : Int32) dWa_passFrom_136 k32_0 ?_
          refine ax_iload (i := 6) dWa_passFrom_137 rfl ?_
          replace hf := bd1_s hf
          obtain ⟨a43, e_d, hf⟩ := hf
          subst e_d
          replace hf := bd1_s hf
          obtain ⟨x44, e_x44, hf⟩ := hf
          obtain ⟨k_e_x44, e_x44⟩ := cv_s e_x44
          refine ax_callV (As := [.int y2, .int (0 : Int32), .int z6]) (rest := [va_rf (some y0)]) (c_Ta_behind e_x44) ml_554 cm_Ta_behind rfl k_e_x44 (Nat.le_trans (Nat.le_of_ble_eq_true rfl) hR1) (Nat.le_trans (Nat.le_of_ble_eq_true rfl) hR2) rfl rfl (Nat.le_of_ble_eq_true rfl) dWa_passFrom_139 ?_
          refine ax_aload_n (i := 0) (some y0) dWa_passFrom_142 rfl rfl ?_
          replace hf := bd1_s hf
          obtain ⟨r45, e_r45, hf⟩ := hf
          refine ax_getR fl_126 rfl dWa_passFrom_143 e_r45 ?_
          refine ax_iload_n (i := 3) dWa_passFrom_146 rfl rfl ?_
          refine ax_iconst (1 : Int32) dWa_passFrom_147 k32_1 ?_
          refine ax_iload (i := 6) dWa_passFrom_148 rfl ?_
          replace hf := bd1_s hf
          obtain ⟨a46, e_d, hf⟩ := hf
          subst e_d
          replace hf := bd1_s hf
          obtain ⟨x47, e_x47, hf⟩ := hf
          obtain ⟨k_e_x47, e_x47⟩ := cv_s e_x47
          refine ax_callV (As := [.int y3, .int (1 : Int32), .int z6]) (rest := [.int x44, va_rf (some y0)]) (c_Ta_behind e_x47) ml_554 cm_Ta_behind rfl k_e_x47 (Nat.le_trans (Nat.le_of_ble_eq_true rfl) hR1) (Nat.le_trans (Nat.le_of_ble_eq_true rfl) hR2) rfl rfl (Nat.le_of_ble_eq_true rfl) dWa_passFrom_150 ?_
          refine ax_iconst (0 : Int32) dWa_passFrom_153 k32_0 ?_
          refine ax_iconst (0 : Int32) dWa_passFrom_154 k32_0 ?_
          replace hf := bd1_s hf
          obtain ⟨x48, e_x48, hf⟩ := hf
          refine ax_callS (As := [.int x44, .int x47, .int (0 : Int32), .int (0 : Int32)]) (rest := [va_rf (some y0)]) (c_Wa_place e_x48) ml_555 cm_Wa_place (Nat.le_trans (Nat.le_of_ble_eq_true rfl) hR1) (Nat.le_trans (Nat.le_of_ble_eq_true rfl) hR2) rfl rfl (Nat.le_of_ble_eq_true rfl) dWa_passFrom_155 ?_
          refine ax_iload_n (i := 1) dWa_passFrom_158 rfl rfl ?_
          refine ax_iconst (2 : Int32) dWa_passFrom_159 k32_2 ?_
          refine ax_iload (i := 6) dWa_passFrom_160 rfl ?_
          refine ax_imul dWa_passFrom_162 ?_
          refine ax_iconst (1 : Int32) dWa_passFrom_163 k32_1 ?_
          refine ax_iadd dWa_passFrom_164 ?_
          replace hf := bd1_s hf
          obtain ⟨h49, e_h49, hf⟩ := hf
          obtain ⟨k_e_h49, e_h49⟩ := cv_s e_h49
          refine ax_callV (As := [.int x48, .int y1, .int (((2 : Int32) * z6) + (1 : Int32))]) (rest := []) (c_Wa_reach e_h49) ml_544 cm_Wa_reach rfl k_e_h49 (Nat.le_trans (Nat.le_of_ble_eq_true rfl) hR1) (Nat.le_trans (Nat.le_of_ble_eq_true rfl) hR2) rfl rfl (Nat.le_of_ble_eq_true rfl) dWa_passFrom_165 ?_
          refine ax_iinc (i := 6) (z6 + (1 : Int32)) [some (va_rf (some y0)), some (.int y1), some (.int y2), some (.int y3), some (.int y4), some (.int y5), some (.int (z6 + (1 : Int32)))] dWa_passFrom_168 rfl (iic k32_1) (Or.inr (c1i rfl)) rfl ?_
          refine ax_goto 67 dWa_passFrom_171 (by decide) ?_
          exact ih (z6 + (1 : Int32)) h49 hf
      replace hf := hT
      clear hT
      replace hf := ite_c hf
      rcases hf with ⟨hc, hf⟩ | ⟨hc, hf⟩
      · refine ax_if_eqT 120 dWa_passFrom_81 (by decide) hc ?_
        cases hf
        exact K
      · refine ax_if_eqF 120 dWa_passFrom_81 (by decide) hc ?_
        refine ax_aload_n (i := 0) (some y0) dWa_passFrom_84 rfl rfl ?_
        refine ax_aload_n (i := 0) (some y0) dWa_passFrom_85 rfl rfl ?_
        replace hf := bd1_s hf
        obtain ⟨r32, e_r32, hf⟩ := hf
        refine ax_getR fl_125 rfl dWa_passFrom_86 e_r32 ?_
        refine ax_iload_n (i := 2) dWa_passFrom_89 rfl rfl ?_
        refine ax_iconst (1 : Int32) dWa_passFrom_90 k32_1 ?_
        refine ax_iload (i := 6) dWa_passFrom_91 rfl ?_
        replace hf := bd1_s hf
        obtain ⟨a33, e_d, hf⟩ := hf
        subst e_d
        replace hf := bd1_s hf
        obtain ⟨x34, e_x34, hf⟩ := hf
        obtain ⟨k_e_x34, e_x34⟩ := cv_s e_x34
        refine ax_callV (As := [.int y2, .int (1 : Int32), .int z6]) (rest := [va_rf (some y0)]) (c_Ta_behind e_x34) ml_554 cm_Ta_behind rfl k_e_x34 (Nat.le_trans (Nat.le_of_ble_eq_true rfl) hR1) (Nat.le_trans (Nat.le_of_ble_eq_true rfl) hR2) rfl rfl (Nat.le_of_ble_eq_true rfl) dWa_passFrom_93 ?_
        refine ax_aload_n (i := 0) (some y0) dWa_passFrom_96 rfl rfl ?_
        replace hf := bd1_s hf
        obtain ⟨r35, e_r35, hf⟩ := hf
        refine ax_getR fl_126 rfl dWa_passFrom_97 e_r35 ?_
        refine ax_iload_n (i := 3) dWa_passFrom_100 rfl rfl ?_
        refine ax_iconst (0 : Int32) dWa_passFrom_101 k32_0 ?_
        refine ax_iload (i := 6) dWa_passFrom_102 rfl ?_
        replace hf := bd1_s hf
        obtain ⟨a36, e_d, hf⟩ := hf
        subst e_d
        replace hf := bd1_s hf
        obtain ⟨x37, e_x37, hf⟩ := hf
        obtain ⟨k_e_x37, e_x37⟩ := cv_s e_x37
        refine ax_callV (As := [.int y3, .int (0 : Int32), .int z6]) (rest := [.int x34, va_rf (some y0)]) (c_Ta_behind e_x37) ml_554 cm_Ta_behind rfl k_e_x37 (Nat.le_trans (Nat.le_of_ble_eq_true rfl) hR1) (Nat.le_trans (Nat.le_of_ble_eq_true rfl) hR2) rfl rfl (Nat.le_of_ble_eq_true rfl) dWa_passFrom_104 ?_
        refine ax_iconst (0 : Int32) dWa_passFrom_107 k32_0 ?_
        refine ax_iconst (0 : Int32) dWa_passFrom_108 k32_0 ?_
        replace hf := bd1_s hf
        obtain ⟨x38, e_x38, hf⟩ := hf
        refine ax_callS (As := [.int x34, .int x37, .int (0 : Int32), .int (0 : Int32)]) (rest := [va_rf (some y0)]) (c_Wa_place e_x38) ml_555 cm_Wa_place (Nat.le_trans (Nat.le_of_ble_eq_true rfl) hR1) (Nat.le_trans (Nat.le_of_ble_eq_true rfl) hR2) rfl rfl (Nat.le_of_ble_eq_true rfl) dWa_passFrom_109 ?_
        refine ax_iload_n (i := 1) dWa_passFrom_112 rfl rfl ?_
        refine ax_iconst (2 : Int32) dWa_passFrom_113 k32_2 ?_
        refine ax_iload (i := 6) dWa_passFrom_114 rfl ?_
        refine ax_imul dWa_passFrom_116 ?_
        replace hf := bd1_s hf
        obtain ⟨h39, e_h39, hf⟩ := hf
        obtain ⟨k_e_h39, e_h39⟩ := cv_s e_h39
        refine ax_callV (As := [.int x38, .int y1, .int ((2 : Int32) * z6)]) (rest := []) (c_Wa_reach e_h39) ml_544 cm_Wa_reach rfl k_e_h39 (Nat.le_trans (Nat.le_of_ble_eq_true rfl) hR1) (Nat.le_trans (Nat.le_of_ble_eq_true rfl) hR2) rfl rfl (Nat.le_of_ble_eq_true rfl) dWa_passFrom_117 ?_
        cases hf
        exact K
    · refine ax_icmp_geT 174 dWa_passFrom_71 (by decide) hc ?_
      refine ax_mask [true, false, true, true, true, true, false] rfl [some (va_rf (some y0)), none, some (.int y2), some (.int y3), some (.int y4), some (.int y5), none] rfl ?_
      exact hk h hf
theorem v_Wa_passFrom {l : Launch} {E : EN} {R : Room} {B : (Nat × Nat) × (Nat × Nat)} {Qf : QF} {h0 : AH} {o : Nat} {p1 : Int32} {r : Int32} {hF : AH} (hR1 : 2 ≤ R.frames) (hR2 : 128 ≤ R.locals) (Hr : ∀ (pc : Nat) (L : List (Option Value)), decode mi_Wa_passFrom.2.1 pc = .ok (.ireturn, 1) → AW l E mi_Wa_passFrom R B Qf pc L [.int r] hF) (hf : f_Wa_passFrom h0 o p1 = some (r, hF)) : AW l E mi_Wa_passFrom R B Qf 0 [some (va_rf (some o)), some (.int p1), none, none, none, none, none] [] h0 := by
  unfold f_Wa_passFrom at hf
  refine ax_aload_n (i := 0) (some o) dWa_passFrom_0 rfl rfl ?_
  replace hf := bd1_s hf
  obtain ⟨r1, e_r1, hf⟩ := hf
  refine ax_getR fl_116 rfl dWa_passFrom_1 e_r1 ?_
  refine ax_iload_n (i := 1) dWa_passFrom_4 rfl rfl ?_
  replace hf := bd1_s hf
  obtain ⟨a2, e_d, hf⟩ := hf
  subst e_d
  replace hf := bd1_s hf
  obtain ⟨x3, e_x3, hf⟩ := hf
  refine ax_iald dWa_passFrom_5 e_x3 ?_
  refine ax_bipush (31 : Int32) dWa_passFrom_6 k8_31 ?_
  refine ax_iand dWa_passFrom_8 ?_
  replace hf := bd1_s hf
  obtain ⟨x4, e_x4, hf⟩ := hf
  refine ax_nmI (Option.some.inj e_x4) ?_
  refine ax_istore_n (i := 2) [some (va_rf (some o)), some (.int p1), some (.int x4), none, none, none, none] dWa_passFrom_9 rfl (Nat.le_of_ble_eq_true rfl) (Or.inr (c1i rfl)) rfl ?_
  refine ax_aload_n (i := 0) (some o) dWa_passFrom_10 rfl rfl ?_
  replace hf := bd1_s hf
  obtain ⟨r5, e_r5, hf⟩ := hf
  refine ax_getR fl_116 rfl dWa_passFrom_11 e_r5 ?_
  refine ax_iload_n (i := 1) dWa_passFrom_14 rfl rfl ?_
  replace hf := bd1_s hf
  obtain ⟨a6, e_d, hf⟩ := hf
  subst e_d
  replace hf := bd1_s hf
  obtain ⟨x7, e_x7, hf⟩ := hf
  refine ax_iald dWa_passFrom_15 e_x7 ?_
  refine ax_iconst (5 : Int32) dWa_passFrom_16 k32_5 ?_
  refine ax_ishr dWa_passFrom_17 ?_
  refine ax_bipush (31 : Int32) dWa_passFrom_18 k8_31 ?_
  refine ax_iand dWa_passFrom_20 ?_
  replace hf := bd1_s hf
  obtain ⟨x8, e_x8, hf⟩ := hf
  refine ax_nmI (Option.some.inj e_x8) ?_
  refine ax_istore_n (i := 3) [some (va_rf (some o)), some (.int p1), some (.int x4), some (.int x8), none, none, none] dWa_passFrom_21 rfl (Nat.le_of_ble_eq_true rfl) (Or.inr (c1i rfl)) rfl ?_
  refine ax_aload_n (i := 0) (some o) dWa_passFrom_22 rfl rfl ?_
  replace hf := bd1_s hf
  obtain ⟨r9, e_r9, hf⟩ := hf
  refine ax_getR fl_125 rfl dWa_passFrom_23 e_r9 ?_
  replace hf := bd1_s hf
  obtain ⟨a10, e_d, hf⟩ := hf
  subst e_d
  replace hf := bd1_s hf
  obtain ⟨r11, e_r11, hf⟩ := hf
  refine ax_getR fl_481 rfl dWa_passFrom_26 e_r11 ?_
  refine ax_iload_n (i := 2) dWa_passFrom_29 rfl rfl ?_
  replace hf := bd1_s hf
  obtain ⟨a12, e_d, hf⟩ := hf
  subst e_d
  replace hf := bd1_s hf
  obtain ⟨x13, e_x13, hf⟩ := hf
  refine ax_iald dWa_passFrom_30 e_x13 ?_
  refine ax_aload_n (i := 0) (some o) dWa_passFrom_31 rfl rfl ?_
  replace hf := bd1_s hf
  obtain ⟨r14, e_r14, hf⟩ := hf
  refine ax_getR fl_126 rfl dWa_passFrom_32 e_r14 ?_
  replace hf := bd1_s hf
  obtain ⟨a15, e_d, hf⟩ := hf
  subst e_d
  replace hf := bd1_s hf
  obtain ⟨r16, e_r16, hf⟩ := hf
  refine ax_getR fl_477 rfl dWa_passFrom_35 e_r16 ?_
  refine ax_iload_n (i := 3) dWa_passFrom_38 rfl rfl ?_
  replace hf := bd1_s hf
  obtain ⟨a17, e_d, hf⟩ := hf
  subst e_d
  replace hf := bd1_s hf
  obtain ⟨x18, e_x18, hf⟩ := hf
  refine ax_iald dWa_passFrom_39 e_x18 ?_
  refine ax_iand dWa_passFrom_40 ?_
  replace hf := bd1_s hf
  obtain ⟨x19, e_x19, hf⟩ := hf
  refine ax_nmI (Option.some.inj e_x19) ?_
  refine ax_istore (i := 4) [some (va_rf (some o)), some (.int p1), some (.int x4), some (.int x8), some (.int x19), none, none] dWa_passFrom_41 (Nat.le_of_ble_eq_true rfl) (Or.inr (c1i rfl)) rfl ?_
  refine ax_aload_n (i := 0) (some o) dWa_passFrom_43 rfl rfl ?_
  replace hf := bd1_s hf
  obtain ⟨r20, e_r20, hf⟩ := hf
  refine ax_getR fl_126 rfl dWa_passFrom_44 e_r20 ?_
  replace hf := bd1_s hf
  obtain ⟨a21, e_d, hf⟩ := hf
  subst e_d
  replace hf := bd1_s hf
  obtain ⟨r22, e_r22, hf⟩ := hf
  refine ax_getR fl_481 rfl dWa_passFrom_47 e_r22 ?_
  refine ax_iload_n (i := 3) dWa_passFrom_50 rfl rfl ?_
  replace hf := bd1_s hf
  obtain ⟨a23, e_d, hf⟩ := hf
  subst e_d
  replace hf := bd1_s hf
  obtain ⟨x24, e_x24, hf⟩ := hf
  refine ax_iald dWa_passFrom_51 e_x24 ?_
  refine ax_aload_n (i := 0) (some o) dWa_passFrom_52 rfl rfl ?_
  replace hf := bd1_s hf
  obtain ⟨r25, e_r25, hf⟩ := hf
  refine ax_getR fl_125 rfl dWa_passFrom_53 e_r25 ?_
  replace hf := bd1_s hf
  obtain ⟨a26, e_d, hf⟩ := hf
  subst e_d
  replace hf := bd1_s hf
  obtain ⟨r27, e_r27, hf⟩ := hf
  refine ax_getR fl_477 rfl dWa_passFrom_56 e_r27 ?_
  refine ax_iload_n (i := 2) dWa_passFrom_59 rfl rfl ?_
  replace hf := bd1_s hf
  obtain ⟨a28, e_d, hf⟩ := hf
  subst e_d
  replace hf := bd1_s hf
  obtain ⟨x29, e_x29, hf⟩ := hf
  refine ax_iald dWa_passFrom_60 e_x29 ?_
  refine ax_iand dWa_passFrom_61 ?_
  replace hf := bd1_s hf
  obtain ⟨x30, e_x30, hf⟩ := hf
  refine ax_nmI (Option.some.inj e_x30) ?_
  refine ax_istore (i := 5) [some (va_rf (some o)), some (.int p1), some (.int x4), some (.int x8), some (.int x19), some (.int x30), none] dWa_passFrom_62 (Nat.le_of_ble_eq_true rfl) (Or.inr (c1i rfl)) rfl ?_
  refine ax_iconst (0 : Int32) dWa_passFrom_64 k32_0 ?_
  refine ax_istore (i := 6) [some (va_rf (some o)), some (.int p1), some (.int x4), some (.int x8), some (.int x19), some (.int x30), some (.int (0 : Int32))] dWa_passFrom_65 (Nat.le_of_ble_eq_true rfl) (Or.inr (c1i rfl)) rfl ?_
  refine w_Wa_passFrom_L67 hR1 hR2 (fun h50 hf => ?_) FU (0 : Int32) h0 hf
  refine ax_iload (i := 4) dWa_passFrom_174 rfl ?_
  refine ax_aload_n (i := 0) (some o) dWa_passFrom_176 rfl rfl ?_
  replace hf := bd1_s hf
  obtain ⟨r51, e_r51, hf⟩ := hf
  refine ax_getR fl_125 rfl dWa_passFrom_177 e_r51 ?_
  replace hf := bd1_s hf
  obtain ⟨a52, e_d, hf⟩ := hf
  subst e_d
  replace hf := bd1_s hf
  obtain ⟨r53, e_r53, hf⟩ := hf
  refine ax_getR fl_481 rfl dWa_passFrom_180 e_r53 ?_
  refine ax_iload_n (i := 2) dWa_passFrom_183 rfl rfl ?_
  replace hf := bd1_s hf
  obtain ⟨a54, e_d, hf⟩ := hf
  subst e_d
  replace hf := bd1_s hf
  obtain ⟨x55, e_x55, hf⟩ := hf
  refine ax_iald dWa_passFrom_184 e_x55 ?_
  replace hf := ite_c hf
  rcases hf with ⟨hc, hf⟩ | ⟨hc, hf⟩
  · refine ax_icmp_neF 202 dWa_passFrom_185 (by decide) hc ?_
    refine ax_iload (i := 5) dWa_passFrom_188 rfl ?_
    refine ax_aload_n (i := 0) (some o) dWa_passFrom_190 rfl rfl ?_
    replace hf := bd1_s hf
    obtain ⟨r56, e_r56, hf⟩ := hf
    refine ax_getR fl_126 rfl dWa_passFrom_191 e_r56 ?_
    replace hf := bd1_s hf
    obtain ⟨a57, e_d, hf⟩ := hf
    subst e_d
    replace hf := bd1_s hf
    obtain ⟨r58, e_r58, hf⟩ := hf
    refine ax_getR fl_481 rfl dWa_passFrom_194 e_r58 ?_
    refine ax_iload_n (i := 3) dWa_passFrom_197 rfl rfl ?_
    replace hf := bd1_s hf
    obtain ⟨a59, e_d, hf⟩ := hf
    subst e_d
    replace hf := bd1_s hf
    obtain ⟨x60, e_x60, hf⟩ := hf
    refine ax_iald dWa_passFrom_198 e_x60 ?_
    replace hf := ite_c hf
    rcases hf with ⟨hc, hf⟩ | ⟨hc, hf⟩
    · refine ax_icmp_eqT 204 dWa_passFrom_199 (by decide) hc ?_
      refine ax_aload_n (i := 0) (some o) dWa_passFrom_204 rfl rfl ?_
      replace hf := bd1_s hf
      obtain ⟨r61, e_r61, hf⟩ := hf
      refine ax_getR fl_125 rfl dWa_passFrom_205 e_r61 ?_
      refine ax_iload_n (i := 2) dWa_passFrom_208 rfl rfl ?_
      replace hf := bd1_s hf
      obtain ⟨a62, e_d, hf⟩ := hf
      subst e_d
      replace hf := bd1_s hf
      obtain ⟨x63, e_x63, hf⟩ := hf
      obtain ⟨k_e_x63, e_x63⟩ := cv_s e_x63
      refine ax_callV (As := [.int x4]) (rest := []) (c_Ta_mayEnd e_x63) ml_558 cm_Ta_mayEnd rfl k_e_x63 (Nat.le_trans (Nat.le_of_ble_eq_true rfl) hR1) (Nat.le_trans (Nat.le_of_ble_eq_true rfl) hR2) rfl rfl (Nat.le_of_ble_eq_true rfl) dWa_passFrom_209 ?_
      replace hf := bd1_s hf
      obtain ⟨x67, hT, hf⟩ := hf
      have K : AW l E mi_Wa_passFrom R B Qf 231 [none, none, none, none, some (.int x19), some (.int x30), none] [.int x67] h50 := by
        clear hT
        refine ax_istore (i := 6) [none, none, none, none, some (.int x19), some (.int x30), some (.int x67)] dWa_passFrom_231 (Nat.le_of_ble_eq_true rfl) (Or.inr (c1i rfl)) rfl ?_
        refine ax_iload (i := 4) dWa_passFrom_233 rfl ?_
        refine ax_iload (i := 5) dWa_passFrom_235 rfl ?_
        refine ax_ior dWa_passFrom_237 ?_
        replace hf := ite_c hf
        rcases hf with ⟨hc, hf⟩ | ⟨hc, hf⟩
        · refine ax_if_neF 250 dWa_passFrom_238 (by decide) hc ?_
          refine ax_iload (i := 6) dWa_passFrom_241 rfl ?_
          replace hf := ite_c hf
          rcases hf with ⟨hc, hf⟩ | ⟨hc, hf⟩
          · refine ax_if_neF 250 dWa_passFrom_243 (by decide) hc ?_
            refine ax_iconst (1 : Int32) dWa_passFrom_246 k32_1 ?_
            refine ax_goto 251 dWa_passFrom_247 (by decide) ?_
            cases hf
            exact Hr _ _ dWa_passFrom_251
          · refine ax_if_neT 250 dWa_passFrom_243 (by decide) hc ?_
            refine ax_iconst (0 : Int32) dWa_passFrom_250 k32_0 ?_
            cases hf
            exact Hr _ _ dWa_passFrom_251
        · refine ax_if_neT 250 dWa_passFrom_238 (by decide) hc ?_
          refine ax_iconst (0 : Int32) dWa_passFrom_250 k32_0 ?_
          cases hf
          exact Hr _ _ dWa_passFrom_251
      replace hf := hT
      clear hT
      replace hf := ite_c hf
      rcases hf with ⟨hc, hf⟩ | ⟨hc, hf⟩
      · refine ax_if_eqT 230 dWa_passFrom_212 (by decide) hc ?_
        refine ax_iconst (0 : Int32) dWa_passFrom_230 k32_0 ?_
        refine ax_mask [false, true, false, false, true, true, true] rfl [none, none, none, none, some (.int x19), some (.int x30), none] rfl ?_
        cases hf
        exact K
      · refine ax_if_eqF 230 dWa_passFrom_212 (by decide) hc ?_
        refine ax_aload_n (i := 0) (some o) dWa_passFrom_215 rfl rfl ?_
        replace hf := bd1_s hf
        obtain ⟨r64, e_r64, hf⟩ := hf
        refine ax_getR fl_126 rfl dWa_passFrom_216 e_r64 ?_
        refine ax_iload_n (i := 3) dWa_passFrom_219 rfl rfl ?_
        replace hf := bd1_s hf
        obtain ⟨a65, e_d, hf⟩ := hf
        subst e_d
        replace hf := bd1_s hf
        obtain ⟨x66, e_x66, hf⟩ := hf
        obtain ⟨k_e_x66, e_x66⟩ := cv_s e_x66
        refine ax_callV (As := [.int x8]) (rest := []) (c_Ta_mayEnd e_x66) ml_558 cm_Ta_mayEnd rfl k_e_x66 (Nat.le_trans (Nat.le_of_ble_eq_true rfl) hR1) (Nat.le_trans (Nat.le_of_ble_eq_true rfl) hR2) rfl rfl (Nat.le_of_ble_eq_true rfl) dWa_passFrom_220 ?_
        replace hf := ite_c hf
        rcases hf with ⟨hc, hf⟩ | ⟨hc, hf⟩
        · refine ax_if_eqT 230 dWa_passFrom_223 (by decide) hc ?_
          refine ax_iconst (0 : Int32) dWa_passFrom_230 k32_0 ?_
          refine ax_mask [false, true, false, false, true, true, true] rfl [none, none, none, none, some (.int x19), some (.int x30), none] rfl ?_
          cases hf
          exact K
        · refine ax_if_eqF 230 dWa_passFrom_223 (by decide) hc ?_
          refine ax_iconst (1 : Int32) dWa_passFrom_226 k32_1 ?_
          refine ax_goto 231 dWa_passFrom_227 (by decide) ?_
          refine ax_mask [false, true, false, false, true, true, true] rfl [none, none, none, none, some (.int x19), some (.int x30), none] rfl ?_
          cases hf
          exact K
    · refine ax_icmp_eqF 204 dWa_passFrom_199 (by decide) hc ?_
      refine ax_iconst (2 : Int32) dWa_passFrom_202 k32_2 ?_
      cases hf
      exact Hr _ _ dWa_passFrom_203
  · refine ax_icmp_neT 202 dWa_passFrom_185 (by decide) hc ?_
    refine ax_iconst (2 : Int32) dWa_passFrom_202 k32_2 ?_
    cases hf
    exact Hr _ _ dWa_passFrom_203
theorem c_Wa_passFrom {l : Launch} {E : EN} {h0 : AH} {o : Nat} {p1 : Int32} {r : Int32} {hF : AH} (hf : f_Wa_passFrom h0 o p1 = some (r, hF)) : AM l E 2 mi_Wa_passFrom [va_rf (some o), .int p1] h0 (some (.int r)) hF :=
  am_of2 [(va_rf (some o), false), (.int p1, false)] 5 ⟨cat_rf _, rfl, trivial⟩ rfl rfl (v_Wa_passFrom (Nat.le_refl _) (Nat.le_refl _) (fun pc L hd => ax_iret rfl hd rfl) hf)
theorem v_Wa_hasRoom {l : Launch} {E : EN} {R : Room} {B : (Nat × Nat) × (Nat × Nat)} {Qf : QF} {h0 : AH} {o : Nat} {p1 : Int32} {r : Int32} (hR1 : 1 ≤ R.frames) (hR2 : 64 ≤ R.locals) (Hr : (r = 0 ∨ r = 1) → ∀ (pc : Nat) (L : List (Option Value)), decode mi_Wa_hasRoom.2.1 pc = .ok (.ireturn, 1) → AW l E mi_Wa_hasRoom R B Qf pc L [.int r] h0) (hf : f_Wa_hasRoom h0 o p1 = some r) : AW l E mi_Wa_hasRoom R B Qf 0 [some (va_rf (some o)), some (.int p1)] [] h0 := by
  unfold f_Wa_hasRoom at hf
  refine ax_aload_n (i := 0) (some o) dWa_hasRoom_0 rfl rfl ?_
  replace hf := bd1_s hf
  obtain ⟨x1, e_x1, hf⟩ := hf
  refine ax_getI fl_127 rfl dWa_hasRoom_1 e_x1 ?_
  refine ax_iconst (1 : Int32) dWa_hasRoom_4 k32_1 ?_
  replace hf := ite_c hf
  rcases hf with ⟨hc, hf⟩ | ⟨hc, hf⟩
  · refine ax_icmp_neF 20 dWa_hasRoom_5 (by decide) hc ?_
    refine ax_iload_n (i := 1) dWa_hasRoom_8 rfl rfl ?_
    replace hf := ite_c hf
    rcases hf with ⟨hc, hf⟩ | ⟨hc, hf⟩
    · refine ax_if_neF 16 dWa_hasRoom_9 (by decide) hc ?_
      refine ax_iconst (1 : Int32) dWa_hasRoom_12 k32_1 ?_
      refine ax_goto 31 dWa_hasRoom_13 (by decide) ?_
      cases hf
      exact Hr (Or.inr rfl) _ _ dWa_hasRoom_31
    · refine ax_if_neT 16 dWa_hasRoom_9 (by decide) hc ?_
      refine ax_iconst (0 : Int32) dWa_hasRoom_16 k32_0 ?_
      refine ax_goto 31 dWa_hasRoom_17 (by decide) ?_
      cases hf
      exact Hr (Or.inl rfl) _ _ dWa_hasRoom_31
  · refine ax_icmp_neT 20 dWa_hasRoom_5 (by decide) hc ?_
    refine ax_iload_n (i := 1) dWa_hasRoom_20 rfl rfl ?_
    refine ax_bipush (16 : Int32) dWa_hasRoom_21 k8_16 ?_
    replace hf := ite_c hf
    rcases hf with ⟨hc, hf⟩ | ⟨hc, hf⟩
    · refine ax_icmp_geF 30 dWa_hasRoom_23 (by decide) hc ?_
      refine ax_iconst (1 : Int32) dWa_hasRoom_26 k32_1 ?_
      refine ax_goto 31 dWa_hasRoom_27 (by decide) ?_
      cases hf
      exact Hr (Or.inr rfl) _ _ dWa_hasRoom_31
    · refine ax_icmp_geT 30 dWa_hasRoom_23 (by decide) hc ?_
      refine ax_iconst (0 : Int32) dWa_hasRoom_30 k32_0 ?_
      cases hf
      exact Hr (Or.inl rfl) _ _ dWa_hasRoom_31
theorem c_Wa_hasRoom {l : Launch} {E : EN} {h0 : AH} {o : Nat} {p1 : Int32} {r : Int32} (hf : f_Wa_hasRoom h0 o p1 = some r) : AM l E 1 mi_Wa_hasRoom [va_rf (some o), .int p1] h0 (some (.int r)) h0 :=
  am_of2 [(va_rf (some o), false), (.int p1, false)] 0 ⟨cat_rf _, rfl, trivial⟩ rfl rfl (v_Wa_hasRoom (Nat.le_refl _) (Nat.le_refl _) (fun hz pc L hd => ax_zret rfl hz hd rfl) hf)
theorem v_Wa_front {l : Launch} {E : EN} {R : Room} {B : (Nat × Nat) × (Nat × Nat)} {Qf : QF} {h0 : AH} {p1 : Int32} {r : Int32} (hR1 : 1 ≤ R.frames) (hR2 : 64 ≤ R.locals) (Hr : ∀ (pc : Nat) (L : List (Option Value)), decode mi_Wa_front.2.1 pc = .ok (.ireturn, 1) → AW l E mi_Wa_front R B Qf pc L [.int r] h0) (hf : f_Wa_front h0 p1 = some r) : AW l E mi_Wa_front R B Qf 0 [some (.int p1)] [] h0 := by
  unfold f_Wa_front at hf
  refine ax_iconst (1 : Int32) dWa_front_0 k32_1 ?_
  refine ax_iload_n (i := 0) dWa_front_1 rfl rfl ?_
  refine ax_bipush (15 : Int32) dWa_front_2 k8_15 ?_
  refine ax_iand dWa_front_4 ?_
  refine ax_ishl dWa_front_5 ?_
  refine ax_iconst (1 : Int32) dWa_front_6 k32_1 ?_
  refine ax_ishr dWa_front_7 ?_
  cases hf
  exact Hr _ _ dWa_front_8
theorem c_Wa_front {l : Launch} {E : EN} {h0 : AH} {p1 : Int32} {r : Int32} (hf : f_Wa_front h0 p1 = some r) : AM l E 1 mi_Wa_front [.int p1] h0 (some (.int r)) h0 :=
  am_of2 [(.int p1, false)] 0 ⟨rfl, trivial⟩ rfl rfl (v_Wa_front (Nat.le_refl _) (Nat.le_refl _) (fun pc L hd => ax_iret rfl hd rfl) hf)
theorem v_Wa_longer {l : Launch} {E : EN} {R : Room} {B : (Nat × Nat) × (Nat × Nat)} {Qf : QF} {h0 : AH} {p1 : Int32} {p2 : Int32} {r : Int32} (hR1 : 1 ≤ R.frames) (hR2 : 64 ≤ R.locals) (Hr : ∀ (pc : Nat) (L : List (Option Value)), decode mi_Wa_longer.2.1 pc = .ok (.ireturn, 1) → AW l E mi_Wa_longer R B Qf pc L [.int r] h0) (hf : f_Wa_longer h0 p1 p2 = some r) : AW l E mi_Wa_longer R B Qf 0 [some (.int p1), some (.int p2)] [] h0 := by
  unfold f_Wa_longer at hf
  refine ax_iload_n (i := 0) dWa_longer_0 rfl rfl ?_
  replace hf := ite_c hf
  rcases hf with ⟨hc, hf⟩ | ⟨hc, hf⟩
  · refine ax_if_neF 10 dWa_longer_1 (by decide) hc ?_
    refine ax_iload_n (i := 1) dWa_longer_4 rfl rfl ?_
    refine ax_iconst (1 : Int32) dWa_longer_5 k32_1 ?_
    refine ax_iadd dWa_longer_6 ?_
    refine ax_goto 17 dWa_longer_7 (by decide) ?_
    cases hf
    exact Hr _ _ dWa_longer_17
  · refine ax_if_neT 10 dWa_longer_1 (by decide) hc ?_
    refine ax_iload_n (i := 0) dWa_longer_10 rfl rfl ?_
    refine ax_iload_n (i := 1) dWa_longer_11 rfl rfl ?_
    refine ax_iconst (1 : Int32) dWa_longer_12 k32_1 ?_
    refine ax_iadd dWa_longer_13 ?_
    refine ax_iconst (4 : Int32) dWa_longer_14 k32_4 ?_
    refine ax_ishl dWa_longer_15 ?_
    refine ax_ior dWa_longer_16 ?_
    cases hf
    exact Hr _ _ dWa_longer_17
theorem c_Wa_longer {l : Launch} {E : EN} {h0 : AH} {p1 : Int32} {p2 : Int32} {r : Int32} (hf : f_Wa_longer h0 p1 p2 = some r) : AM l E 1 mi_Wa_longer [.int p1, .int p2] h0 (some (.int r)) h0 :=
  am_of2 [(.int p1, false), (.int p2, false)] 0 ⟨rfl, rfl, trivial⟩ rfl rfl (v_Wa_longer (Nat.le_refl _) (Nat.le_refl _) (fun pc L hd => ax_iret rfl hd rfl) hf)
theorem w_Wa_actFrom_L137 {l : Launch} {E : EN} {R : Room} {B : (Nat × Nat) × (Nat × Nat)} {Qf : QF} {ρ : Type} {res : ρ} (hR1 : 2 ≤ R.frames) (hR2 : 128 ≤ R.locals) {y0 : Nat} {y1 : Int32} {y2 : Int32} {y3 : Int32} {y4 : Int32} {y5 : Int32} {y6 : Int32} {y7 : Int32} {y8 : Int32} {y9 : Int32} {k : AH → Option (ρ)} (hk : ∀ (h : AH), k h = some res → AW l E mi_Wa_actFrom R B Qf 193 [some (va_rf (some y0)), some (.int y1), some (.int y2), some (.int y3), some (.int y4), some (.int y5), some (.int y6), some (.int y7), some (.int y8), some (.int y9), none] [] h) : ∀ (n : Nat) (z10 : Int32) (h : AH), f_Wa_actFrom_L137 y0 y1 y2 y3 y4 y5 y6 y7 y8 y9 k n z10 h = some res → AW l E mi_Wa_actFrom R B Qf 137 [some (va_rf (some y0)), some (.int y1), some (.int y2), some (.int y3), some (.int y4), some (.int y5), some (.int y6), some (.int y7), some (.int y8), some (.int y9), some (.int z10)] [] h := by
  intro n
  induction n with
  | zero => intro z10 h hf; cases hf
  | succ n ih =>
    intro z10 h hf
    rw [f_Wa_actFrom_L137] at hf
    refine ax_iload (i := 10) dWa_actFrom_137 rfl ?_
    refine ax_bipush (8 : Int32) dWa_actFrom_139 k8_8 ?_
    replace hf := ite_c hf
    rcases hf with ⟨hc, hf⟩ | ⟨hc, hf⟩
    · refine ax_icmp_geF 193 dWa_actFrom_141 (by decide) hc ?_
      refine ax_iload (i := 6) dWa_actFrom_144 rfl ?_
      refine ax_iload (i := 10) dWa_actFrom_146 rfl ?_
      replace hf := bd1_s hf
      obtain ⟨x45, e_x45, hf⟩ := hf
      refine ax_callS (As := [.int y6, .int z10]) (rest := []) (c_C_hasBit e_x45) ml_553 cm_C_hasBit (Nat.le_trans (Nat.le_of_ble_eq_true rfl) hR1) (Nat.le_trans (Nat.le_of_ble_eq_true rfl) hR2) rfl rfl (Nat.le_of_ble_eq_true rfl) dWa_actFrom_148 ?_
      replace hf := ite_c hf
      rcases hf with ⟨hc, hf⟩ | ⟨hc, hf⟩
      · refine ax_if_eqT 187 dWa_actFrom_151 (by decide) hc ?_
        refine ax_iinc (i := 10) (z10 + (1 : Int32)) [some (va_rf (some y0)), some (.int y1), some (.int y2), some (.int y3), some (.int y4), some (.int y5), some (.int y6), some (.int y7), some (.int y8), some (.int y9), some (.int (z10 + (1 : Int32)))] dWa_actFrom_187 rfl (iic k32_1) (Or.inr (c1i rfl)) rfl ?_
        refine ax_goto 137 dWa_actFrom_190 (by decide) ?_
        exact ih (z10 + (1 : Int32)) h hf
      · refine ax_if_eqF 187 dWa_actFrom_151 (by decide) hc ?_
        refine ax_aload_n (i := 0) (some y0) dWa_actFrom_154 rfl rfl ?_
        refine ax_aload_n (i := 0) (some y0) dWa_actFrom_155 rfl rfl ?_
        replace hf := bd1_s hf
        obtain ⟨r46, e_r46, hf⟩ := hf
        refine ax_getR fl_125 rfl dWa_actFrom_156 e_r46 ?_
        refine ax_iload_n (i := 2) dWa_actFrom_159 rfl rfl ?_
        refine ax_iconst (1 : Int32) dWa_actFrom_160 k32_1 ?_
        refine ax_iload (i := 10) dWa_actFrom_161 rfl ?_
        replace hf := bd1_s hf
        obtain ⟨a47, e_d, hf⟩ := hf
        subst e_d
        replace hf := bd1_s hf
        obtain ⟨x48, e_x48, hf⟩ := hf
        obtain ⟨k_e_x48, e_x48⟩ := cv_s e_x48
        refine ax_callV (As := [.int y2, .int (1 : Int32), .int z10]) (rest := [va_rf (some y0)]) (c_Ta_behind e_x48) ml_554 cm_Ta_behind rfl k_e_x48 (Nat.le_trans (Nat.le_of_ble_eq_true rfl) hR1) (Nat.le_trans (Nat.le_of_ble_eq_true rfl) hR2) rfl rfl (Nat.le_of_ble_eq_true rfl) dWa_actFrom_163 ?_
        refine ax_iload_n (i := 3) dWa_actFrom_166 rfl rfl ?_
        refine ax_iload (i := 4) dWa_actFrom_167 rfl ?_
        refine ax_iload (i := 10) dWa_actFrom_169 rfl ?_
        replace hf := bd1_s hf
        obtain ⟨x49, e_x49, hf⟩ := hf
        refine ax_callS (As := [.int y4, .int z10]) (rest := [.int y3, .int x48, va_rf (some y0)]) (c_Wa_longer e_x49) ml_570 cm_Wa_longer (Nat.le_trans (Nat.le_of_ble_eq_true rfl) hR1) (Nat.le_trans (Nat.le_of_ble_eq_true rfl) hR2) rfl rfl (Nat.le_of_ble_eq_true rfl) dWa_actFrom_171 ?_
        refine ax_iload (i := 5) dWa_actFrom_174 rfl ?_
        replace hf := bd1_s hf
        obtain ⟨x50, e_x50, hf⟩ := hf
        refine ax_callS (As := [.int x48, .int y3, .int x49, .int y5]) (rest := [va_rf (some y0)]) (c_Wa_place e_x50) ml_555 cm_Wa_place (Nat.le_trans (Nat.le_of_ble_eq_true rfl) hR1) (Nat.le_trans (Nat.le_of_ble_eq_true rfl) hR2) rfl rfl (Nat.le_of_ble_eq_true rfl) dWa_actFrom_176 ?_
        refine ax_iload_n (i := 1) dWa_actFrom_179 rfl rfl ?_
        refine ax_iconst (0 : Int32) dWa_actFrom_180 k32_0 ?_
        refine ax_iload (i := 10) dWa_actFrom_181 rfl ?_
        refine ax_iadd dWa_actFrom_183 ?_
        replace hf := bd1_s hf
        obtain ⟨h51, e_h51, hf⟩ := hf
        obtain ⟨k_e_h51, e_h51⟩ := cv_s e_h51
        refine ax_callV (As := [.int x50, .int y1, .int ((0 : Int32) + z10)]) (rest := []) (c_Wa_reach e_h51) ml_544 cm_Wa_reach rfl k_e_h51 (Nat.le_trans (Nat.le_of_ble_eq_true rfl) hR1) (Nat.le_trans (Nat.le_of_ble_eq_true rfl) hR2) rfl rfl (Nat.le_of_ble_eq_true rfl) dWa_actFrom_184 ?_
        refine ax_iinc (i := 10) (z10 + (1 : Int32)) [some (va_rf (some y0)), some (.int y1), some (.int y2), some (.int y3), some (.int y4), some (.int y5), some (.int y6), some (.int y7), some (.int y8), some (.int y9), some (.int (z10 + (1 : Int32)))] dWa_actFrom_187 rfl (iic k32_1) (Or.inr (c1i rfl)) rfl ?_
        refine ax_goto 137 dWa_actFrom_190 (by decide) ?_
        exact ih (z10 + (1 : Int32)) h51 hf
    · refine ax_icmp_geT 193 dWa_actFrom_141 (by decide) hc ?_
      refine ax_mask [true, true, true, true, true, true, true, true, true, true, false] rfl [some (va_rf (some y0)), some (.int y1), some (.int y2), some (.int y3), some (.int y4), some (.int y5), some (.int y6), some (.int y7), some (.int y8), some (.int y9), none] rfl ?_
      exact hk h hf
theorem w_Wa_actFrom_L196 {l : Launch} {E : EN} {R : Room} {B : (Nat × Nat) × (Nat × Nat)} {Qf : QF} {ρ : Type} {res : ρ} (hR1 : 2 ≤ R.frames) (hR2 : 128 ≤ R.locals) {y0 : Nat} {y1 : Int32} {y2 : Int32} {y3 : Int32} {y4 : Int32} {y5 : Int32} {y6 : Int32} {y7 : Int32} {y8 : Int32} {y9 : Int32} {k : AH → Option (ρ)} (hk : ∀ (h : AH), k h = some res → AW l E mi_Wa_actFrom R B Qf 253 [some (va_rf (some y0)), some (.int y1), some (.int y2), some (.int y3), some (.int y4), some (.int y5), some (.int y6), some (.int y7), some (.int y8), some (.int y9), none] [] h) : ∀ (n : Nat) (z10 : Int32) (h : AH), f_Wa_actFrom_L196 y0 y1 y2 y3 y4 y5 y6 y7 y8 y9 k n z10 h = some res → AW l E mi_Wa_actFrom R B Qf 196 [some (va_rf (some y0)), some (.int y1), some (.int y2), some (.int y3), some (.int y4), some (.int y5), some (.int y6), some (.int y7), some (.int y8), some (.int y9), some (.int z10)] [] h := by
  intro n
  induction n with
  | zero => intro z10 h hf; cases hf
  | succ n ih =>
    intro z10 h hf
    rw [f_Wa_actFrom_L196] at hf
    refine ax_iload (i := 10) dWa_actFrom_196 rfl ?_
    refine ax_bipush (8 : Int32) dWa_actFrom_198 k8_8 ?_
    replace hf := ite_c hf
    rcases hf with ⟨hc, hf⟩ | ⟨hc, hf⟩
    · refine ax_icmp_geF 253 dWa_actFrom_200 (by decide) hc ?_
      refine ax_iload (i := 7) dWa_actFrom_203 rfl ?_
      refine ax_iload (i := 10) dWa_actFrom_205 rfl ?_
      replace hf := bd1_s hf
      obtain ⟨x53, e_x53, hf⟩ := hf
      refine ax_callS (As := [.int y7, .int z10]) (rest := []) (c_C_hasBit e_x53) ml_553 cm_C_hasBit (Nat.le_trans (Nat.le_of_ble_eq_true rfl) hR1) (Nat.le_trans (Nat.le_of_ble_eq_true rfl) hR2) rfl rfl (Nat.le_of_ble_eq_true rfl) dWa_actFrom_207 ?_
      replace hf := ite_c hf
      rcases hf with ⟨hc, hf⟩ | ⟨hc, hf⟩
      · refine ax_if_eqT 247 dWa_actFrom_210 (by decide) hc ?_
        refine ax_iinc (i := 10) (z10 + (1 : Int32)) [some (va_rf (some y0)), some (.int y1), some (.int y2), some (.int y3), some (.int y4), some (.int y5), some (.int y6), some (.int y7), some (.int y8), some (.int y9), some (.int (z10 + (1 : Int32)))] dWa_actFrom_247 rfl (iic k32_1) (Or.inr (c1i rfl)) rfl ?_
        refine ax_goto 196 dWa_actFrom_250 (by decide) ?_
        exact ih (z10 + (1 : Int32)) h hf
      · refine ax_if_eqF 247 dWa_actFrom_210 (by decide) hc ?_
        refine ax_aload_n (i := 0) (some y0) dWa_actFrom_213 rfl rfl ?_
        refine ax_iload_n (i := 2) dWa_actFrom_214 rfl rfl ?_
        refine ax_aload_n (i := 0) (some y0) dWa_actFrom_215 rfl rfl ?_
        replace hf := bd1_s hf
        obtain ⟨r54, e_r54, hf⟩ := hf
        refine ax_getR fl_126 rfl dWa_actFrom_216 e_r54 ?_
        refine ax_iload_n (i := 3) dWa_actFrom_219 rfl rfl ?_
        refine ax_iconst (1 : Int32) dWa_actFrom_220 k32_1 ?_
        refine ax_iload (i := 10) dWa_actFrom_221 rfl ?_
        replace hf := bd1_s hf
        obtain ⟨a55, e_d, hf⟩ := hf
        subst e_d
        replace hf := bd1_s hf
        obtain ⟨x56, e_x56, hf⟩ := hf
        obtain ⟨k_e_x56, e_x56⟩ := cv_s e_x56
        refine ax_callV (As := [.int y3, .int (1 : Int32), .int z10]) (rest := [.int y2, va_rf (some y0)]) (c_Ta_behind e_x56) ml_554 cm_Ta_behind rfl k_e_x56 (Nat.le_trans (Nat.le_of_ble_eq_true rfl) hR1) (Nat.le_trans (Nat.le_of_ble_eq_true rfl) hR2) rfl rfl (Nat.le_of_ble_eq_true rfl) dWa_actFrom_223 ?_
        refine ax_iload (i := 4) dWa_actFrom_226 rfl ?_
        refine ax_iload (i := 5) dWa_actFrom_228 rfl ?_
        refine ax_iload (i := 10) dWa_actFrom_230 rfl ?_
        replace hf := bd1_s hf
        obtain ⟨x57, e_x57, hf⟩ := hf
        refine ax_callS (As := [.int y5, .int z10]) (rest := [.int y4, .int x56, .int y2, va_rf (some y0)]) (c_Wa_longer e_x57) ml_570 cm_Wa_longer (Nat.le_trans (Nat.le_of_ble_eq_true rfl) hR1) (Nat.le_trans (Nat.le_of_ble_eq_true rfl) hR2) rfl rfl (Nat.le_of_ble_eq_true rfl) dWa_actFrom_232 ?_
        replace hf := bd1_s hf
        obtain ⟨x58, e_x58, hf⟩ := hf
        refine ax_callS (As := [.int y2, .int x56, .int y4, .int x57]) (rest := [va_rf (some y0)]) (c_Wa_place e_x58) ml_555 cm_Wa_place (Nat.le_trans (Nat.le_of_ble_eq_true rfl) hR1) (Nat.le_trans (Nat.le_of_ble_eq_true rfl) hR2) rfl rfl (Nat.le_of_ble_eq_true rfl) dWa_actFrom_235 ?_
        refine ax_iload_n (i := 1) dWa_actFrom_238 rfl rfl ?_
        refine ax_bipush (8 : Int32) dWa_actFrom_239 k8_8 ?_
        refine ax_iload (i := 10) dWa_actFrom_241 rfl ?_
        refine ax_iadd dWa_actFrom_243 ?_
        replace hf := bd1_s hf
        obtain ⟨h59, e_h59, hf⟩ := hf
        obtain ⟨k_e_h59, e_h59⟩ := cv_s e_h59
        refine ax_callV (As := [.int x58, .int y1, .int ((8 : Int32) + z10)]) (rest := []) (c_Wa_reach e_h59) ml_544 cm_Wa_reach rfl k_e_h59 (Nat.le_trans (Nat.le_of_ble_eq_true rfl) hR1) (Nat.le_trans (Nat.le_of_ble_eq_true rfl) hR2) rfl rfl (Nat.le_of_ble_eq_true rfl) dWa_actFrom_244 ?_
        refine ax_iinc (i := 10) (z10 + (1 : Int32)) [some (va_rf (some y0)), some (.int y1), some (.int y2), some (.int y3), some (.int y4), some (.int y5), some (.int y6), some (.int y7), some (.int y8), some (.int y9), some (.int (z10 + (1 : Int32)))] dWa_actFrom_247 rfl (iic k32_1) (Or.inr (c1i rfl)) rfl ?_
        refine ax_goto 196 dWa_actFrom_250 (by decide) ?_
        exact ih (z10 + (1 : Int32)) h59 hf
    · refine ax_icmp_geT 253 dWa_actFrom_200 (by decide) hc ?_
      refine ax_mask [true, true, true, true, true, true, true, true, true, true, false] rfl [some (va_rf (some y0)), some (.int y1), some (.int y2), some (.int y3), some (.int y4), some (.int y5), some (.int y6), some (.int y7), some (.int y8), some (.int y9), none] rfl ?_
      exact hk h hf
theorem v_Wa_actFrom {l : Launch} {E : EN} {R : Room} {B : (Nat × Nat) × (Nat × Nat)} {Qf : QF} {h0 : AH} {o : Nat} {p1 : Int32} {r : Int32} {hF : AH} (hR1 : 2 ≤ R.frames) (hR2 : 128 ≤ R.locals) (Hr : ∀ (pc : Nat) (L : List (Option Value)), decode mi_Wa_actFrom.2.1 pc = .ok (.ireturn, 1) → AW l E mi_Wa_actFrom R B Qf pc L [.int r] hF) (hf : f_Wa_actFrom h0 o p1 = some (r, hF)) : AW l E mi_Wa_actFrom R B Qf 0 [some (va_rf (some o)), some (.int p1), none, none, none, none, none, none, none, none, none] [] h0 := by
  unfold f_Wa_actFrom at hf
  refine ax_aload_n (i := 0) (some o) dWa_actFrom_0 rfl rfl ?_
  replace hf := bd1_s hf
  obtain ⟨r1, e_r1, hf⟩ := hf
  refine ax_getR fl_116 rfl dWa_actFrom_1 e_r1 ?_
  refine ax_iload_n (i := 1) dWa_actFrom_4 rfl rfl ?_
  replace hf := bd1_s hf
  obtain ⟨a2, e_d, hf⟩ := hf
  subst e_d
  replace hf := bd1_s hf
  obtain ⟨x3, e_x3, hf⟩ := hf
  refine ax_iald dWa_actFrom_5 e_x3 ?_
  refine ax_bipush (31 : Int32) dWa_actFrom_6 k8_31 ?_
  refine ax_iand dWa_actFrom_8 ?_
  replace hf := bd1_s hf
  obtain ⟨x4, e_x4, hf⟩ := hf
  refine ax_nmI (Option.some.inj e_x4) ?_
  refine ax_istore_n (i := 2) [some (va_rf (some o)), some (.int p1), some (.int x4), none, none, none, none, none, none, none, none] dWa_actFrom_9 rfl (Nat.le_of_ble_eq_true rfl) (Or.inr (c1i rfl)) rfl ?_
  refine ax_aload_n (i := 0) (some o) dWa_actFrom_10 rfl rfl ?_
  replace hf := bd1_s hf
  obtain ⟨r5, e_r5, hf⟩ := hf
  refine ax_getR fl_116 rfl dWa_actFrom_11 e_r5 ?_
  refine ax_iload_n (i := 1) dWa_actFrom_14 rfl rfl ?_
  replace hf := bd1_s hf
  obtain ⟨a6, e_d, hf⟩ := hf
  subst e_d
  replace hf := bd1_s hf
  obtain ⟨x7, e_x7, hf⟩ := hf
  refine ax_iald dWa_actFrom_15 e_x7 ?_
  refine ax_iconst (5 : Int32) dWa_actFrom_16 k32_5 ?_
  refine ax_ishr dWa_actFrom_17 ?_
  refine ax_bipush (31 : Int32) dWa_actFrom_18 k8_31 ?_
  refine ax_iand dWa_actFrom_20 ?_
  replace hf := bd1_s hf
  obtain ⟨x8, e_x8, hf⟩ := hf
  refine ax_nmI (Option.some.inj e_x8) ?_
  refine ax_istore_n (i := 3) [some (va_rf (some o)), some (.int p1), some (.int x4), some (.int x8), none, none, none, none, none, none, none] dWa_actFrom_21 rfl (Nat.le_of_ble_eq_true rfl) (Or.inr (c1i rfl)) rfl ?_
  refine ax_aload_n (i := 0) (some o) dWa_actFrom_22 rfl rfl ?_
  replace hf := bd1_s hf
  obtain ⟨r9, e_r9, hf⟩ := hf
  refine ax_getR fl_116 rfl dWa_actFrom_23 e_r9 ?_
  refine ax_iload_n (i := 1) dWa_actFrom_26 rfl rfl ?_
  replace hf := bd1_s hf
  obtain ⟨a10, e_d, hf⟩ := hf
  subst e_d
  replace hf := bd1_s hf
  obtain ⟨x11, e_x11, hf⟩ := hf
  refine ax_iald dWa_actFrom_27 e_x11 ?_
  refine ax_bipush (10 : Int32) dWa_actFrom_28 k8_10 ?_
  refine ax_ishr dWa_actFrom_30 ?_
  refine ax_sipush (255 : Int32) dWa_actFrom_31 k16_255 ?_
  refine ax_iand dWa_actFrom_34 ?_
  replace hf := bd1_s hf
  obtain ⟨x12, e_x12, hf⟩ := hf
  refine ax_nmI (Option.some.inj e_x12) ?_
  refine ax_istore (i := 4) [some (va_rf (some o)), some (.int p1), some (.int x4), some (.int x8), some (.int x12), none, none, none, none, none, none] dWa_actFrom_35 (Nat.le_of_ble_eq_true rfl) (Or.inr (c1i rfl)) rfl ?_
  refine ax_aload_n (i := 0) (some o) dWa_actFrom_37 rfl rfl ?_
  replace hf := bd1_s hf
  obtain ⟨r13, e_r13, hf⟩ := hf
  refine ax_getR fl_116 rfl dWa_actFrom_38 e_r13 ?_
  refine ax_iload_n (i := 1) dWa_actFrom_41 rfl rfl ?_
  replace hf := bd1_s hf
  obtain ⟨a14, e_d, hf⟩ := hf
  subst e_d
  replace hf := bd1_s hf
  obtain ⟨x15, e_x15, hf⟩ := hf
  refine ax_iald dWa_actFrom_42 e_x15 ?_
  refine ax_bipush (18 : Int32) dWa_actFrom_43 k8_18 ?_
  refine ax_ishr dWa_actFrom_45 ?_
  refine ax_sipush (255 : Int32) dWa_actFrom_46 k16_255 ?_
  refine ax_iand dWa_actFrom_49 ?_
  replace hf := bd1_s hf
  obtain ⟨x16, e_x16, hf⟩ := hf
  refine ax_nmI (Option.some.inj e_x16) ?_
  refine ax_istore (i := 5) [some (va_rf (some o)), some (.int p1), some (.int x4), some (.int x8), some (.int x12), some (.int x16), none, none, none, none, none] dWa_actFrom_50 (Nat.le_of_ble_eq_true rfl) (Or.inr (c1i rfl)) rfl ?_
  refine ax_aload_n (i := 0) (some o) dWa_actFrom_52 rfl rfl ?_
  refine ax_iload (i := 4) dWa_actFrom_53 rfl ?_
  replace hf := bd1_s hf
  obtain ⟨x17, e_x17, hf⟩ := hf
  obtain ⟨k_e_x17, e_x17⟩ := cv_s e_x17
  refine ax_callV (As := [.int x12]) (rest := []) (c_Wa_hasRoom e_x17) ml_563 cm_Wa_hasRoom rfl k_e_x17 (Nat.le_trans (Nat.le_of_ble_eq_true rfl) hR1) (Nat.le_trans (Nat.le_of_ble_eq_true rfl) hR2) rfl rfl (Nat.le_of_ble_eq_true rfl) dWa_actFrom_55 ?_
  replace hf := bd1_s hf
  obtain ⟨x23, hT, hf⟩ := hf
  have K : AW l E mi_Wa_actFrom R B Qf 74 [some (va_rf (some o)), some (.int p1), some (.int x4), some (.int x8), some (.int x12), some (.int x16), none, none, none, none, none] [.int x23] h0 := by
    clear hT
    refine ax_istore (i := 6) [some (va_rf (some o)), some (.int p1), some (.int x4), some (.int x8), some (.int x12), some (.int x16), some (.int x23), none, none, none, none] dWa_actFrom_74 (Nat.le_of_ble_eq_true rfl) (Or.inr (c1i rfl)) rfl ?_
    refine ax_aload_n (i := 0) (some o) dWa_actFrom_76 rfl rfl ?_
    refine ax_iload (i := 5) dWa_actFrom_77 rfl ?_
    replace hf := bd1_s hf
    obtain ⟨x24, e_x24, hf⟩ := hf
    obtain ⟨k_e_x24, e_x24⟩ := cv_s e_x24
    refine ax_callV (As := [.int x16]) (rest := []) (c_Wa_hasRoom e_x24) ml_563 cm_Wa_hasRoom rfl k_e_x24 (Nat.le_trans (Nat.le_of_ble_eq_true rfl) hR1) (Nat.le_trans (Nat.le_of_ble_eq_true rfl) hR2) rfl rfl (Nat.le_of_ble_eq_true rfl) dWa_actFrom_79 ?_
    replace hf := bd1_s hf
    obtain ⟨x30, hT, hf⟩ := hf
    have K : AW l E mi_Wa_actFrom R B Qf 98 [some (va_rf (some o)), some (.int p1), some (.int x4), some (.int x8), some (.int x12), some (.int x16), some (.int x23), none, none, none, none] [.int x30] h0 := by
      clear hT
      refine ax_istore (i := 7) [some (va_rf (some o)), some (.int p1), some (.int x4), some (.int x8), some (.int x12), some (.int x16), some (.int x23), some (.int x30), none, none, none] dWa_actFrom_98 (Nat.le_of_ble_eq_true rfl) (Or.inr (c1i rfl)) rfl ?_
      refine ax_aload_n (i := 0) (some o) dWa_actFrom_100 rfl rfl ?_
      replace hf := bd1_s hf
      obtain ⟨r31, e_r31, hf⟩ := hf
      refine ax_getR fl_125 rfl dWa_actFrom_101 e_r31 ?_
      replace hf := bd1_s hf
      obtain ⟨a32, e_d, hf⟩ := hf
      subst e_d
      replace hf := bd1_s hf
      obtain ⟨r33, e_r33, hf⟩ := hf
      refine ax_getR fl_477 rfl dWa_actFrom_104 e_r33 ?_
      refine ax_iload_n (i := 2) dWa_actFrom_107 rfl rfl ?_
      replace hf := bd1_s hf
      obtain ⟨a34, e_d, hf⟩ := hf
      subst e_d
      replace hf := bd1_s hf
      obtain ⟨x35, e_x35, hf⟩ := hf
      refine ax_iald dWa_actFrom_108 e_x35 ?_
      refine ax_iload (i := 5) dWa_actFrom_109 rfl ?_
      replace hf := bd1_s hf
      obtain ⟨x36, e_x36, hf⟩ := hf
      refine ax_callS (As := [.int x16]) (rest := [.int x35]) (c_Wa_front e_x36) ml_567 cm_Wa_front (Nat.le_trans (Nat.le_of_ble_eq_true rfl) hR1) (Nat.le_trans (Nat.le_of_ble_eq_true rfl) hR2) rfl rfl (Nat.le_of_ble_eq_true rfl) dWa_actFrom_111 ?_
      refine ax_iand dWa_actFrom_114 ?_
      replace hf := bd1_s hf
      obtain ⟨x37, e_x37, hf⟩ := hf
      refine ax_nmI (Option.some.inj e_x37) ?_
      refine ax_istore (i := 8) [some (va_rf (some o)), some (.int p1), some (.int x4), some (.int x8), some (.int x12), some (.int x16), some (.int x23), some (.int x30), some (.int x37), none, none] dWa_actFrom_115 (Nat.le_of_ble_eq_true rfl) (Or.inr (c1i rfl)) rfl ?_
      refine ax_aload_n (i := 0) (some o) dWa_actFrom_117 rfl rfl ?_
      replace hf := bd1_s hf
      obtain ⟨r38, e_r38, hf⟩ := hf
      refine ax_getR fl_126 rfl dWa_actFrom_118 e_r38 ?_
      replace hf := bd1_s hf
      obtain ⟨a39, e_d, hf⟩ := hf
      subst e_d
      replace hf := bd1_s hf
      obtain ⟨r40, e_r40, hf⟩ := hf
      refine ax_getR fl_477 rfl dWa_actFrom_121 e_r40 ?_
      refine ax_iload_n (i := 3) dWa_actFrom_124 rfl rfl ?_
      replace hf := bd1_s hf
      obtain ⟨a41, e_d, hf⟩ := hf
      subst e_d
      replace hf := bd1_s hf
      obtain ⟨x42, e_x42, hf⟩ := hf
      refine ax_iald dWa_actFrom_125 e_x42 ?_
      refine ax_iload (i := 4) dWa_actFrom_126 rfl ?_
      replace hf := bd1_s hf
      obtain ⟨x43, e_x43, hf⟩ := hf
      refine ax_callS (As := [.int x12]) (rest := [.int x42]) (c_Wa_front e_x43) ml_567 cm_Wa_front (Nat.le_trans (Nat.le_of_ble_eq_true rfl) hR1) (Nat.le_trans (Nat.le_of_ble_eq_true rfl) hR2) rfl rfl (Nat.le_of_ble_eq_true rfl) dWa_actFrom_128 ?_
      refine ax_iand dWa_actFrom_131 ?_
      replace hf := bd1_s hf
      obtain ⟨x44, e_x44, hf⟩ := hf
      refine ax_nmI (Option.some.inj e_x44) ?_
      refine ax_istore (i := 9) [some (va_rf (some o)), some (.int p1), some (.int x4), some (.int x8), some (.int x12), some (.int x16), some (.int x23), some (.int x30), some (.int x37), some (.int x44), none] dWa_actFrom_132 (Nat.le_of_ble_eq_true rfl) (Or.inr (c1i rfl)) rfl ?_
      refine ax_iconst (0 : Int32) dWa_actFrom_134 k32_0 ?_
      refine ax_istore (i := 10) [some (va_rf (some o)), some (.int p1), some (.int x4), some (.int x8), some (.int x12), some (.int x16), some (.int x23), some (.int x30), some (.int x37), some (.int x44), some (.int (0 : Int32))] dWa_actFrom_135 (Nat.le_of_ble_eq_true rfl) (Or.inr (c1i rfl)) rfl ?_
      refine w_Wa_actFrom_L137 hR1 hR2 (fun h52 hf => ?_) FU (0 : Int32) h0 hf
      refine ax_iconst (0 : Int32) dWa_actFrom_193 k32_0 ?_
      refine ax_istore (i := 10) [some (va_rf (some o)), some (.int p1), some (.int x4), some (.int x8), some (.int x12), some (.int x16), some (.int x23), some (.int x30), some (.int x37), some (.int x44), some (.int (0 : Int32))] dWa_actFrom_194 (Nat.le_of_ble_eq_true rfl) (Or.inr (c1i rfl)) rfl ?_
      refine w_Wa_actFrom_L196 hR1 hR2 (fun h60 hf => ?_) FU (0 : Int32) h52 hf
      refine ax_iload (i := 8) dWa_actFrom_253 rfl ?_
      replace hf := bd1_s hf
      obtain ⟨h66, hT, hf⟩ := hf
      have K : AW l E mi_Wa_actFrom R B Qf 291 [some (va_rf (some o)), some (.int p1), some (.int x4), some (.int x8), some (.int x12), some (.int x16), some (.int x23), some (.int x30), some (.int x37), some (.int x44), none] [] h66 := by
        clear hT
        refine ax_iload (i := 9) dWa_actFrom_291 rfl ?_
        replace hf := bd1_s hf
        obtain ⟨h72, hT, hf⟩ := hf
        have K : AW l E mi_Wa_actFrom R B Qf 329 [some (va_rf (some o)), none, some (.int x4), some (.int x8), some (.int x12), some (.int x16), some (.int x23), some (.int x30), some (.int x37), some (.int x44), none] [] h72 := by
          clear hT
          refine ax_aload_n (i := 0) (some o) dWa_actFrom_329 rfl rfl ?_
          replace hf := bd1_s hf
          obtain ⟨r73, e_r73, hf⟩ := hf
          refine ax_getR fl_125 rfl dWa_actFrom_330 e_r73 ?_
          refine ax_iload_n (i := 2) dWa_actFrom_333 rfl rfl ?_
          replace hf := bd1_s hf
          obtain ⟨a74, e_d, hf⟩ := hf
          subst e_d
          replace hf := bd1_s hf
          obtain ⟨x75, e_x75, hf⟩ := hf
          obtain ⟨k_e_x75, e_x75⟩ := cv_s e_x75
          refine ax_callV (As := [.int x4]) (rest := []) (c_Ta_mayEnd e_x75) ml_558 cm_Ta_mayEnd rfl k_e_x75 (Nat.le_trans (Nat.le_of_ble_eq_true rfl) hR1) (Nat.le_trans (Nat.le_of_ble_eq_true rfl) hR2) rfl rfl (Nat.le_of_ble_eq_true rfl) dWa_actFrom_334 ?_
          replace hf := bd1_s hf
          obtain ⟨x79, hT, hf⟩ := hf
          have K : AW l E mi_Wa_actFrom R B Qf 364 [none, none, none, none, none, none, some (.int x23), some (.int x30), some (.int x37), some (.int x44), none] [.int x79] h72 := by
            clear hT
            refine ax_istore (i := 10) [none, none, none, none, none, none, some (.int x23), some (.int x30), some (.int x37), some (.int x44), some (.int x79)] dWa_actFrom_364 (Nat.le_of_ble_eq_true rfl) (Or.inr (c1i rfl)) rfl ?_
            refine ax_iload (i := 6) dWa_actFrom_366 rfl ?_
            refine ax_iload (i := 7) dWa_actFrom_368 rfl ?_
            refine ax_ior dWa_actFrom_370 ?_
            refine ax_iload (i := 8) dWa_actFrom_371 rfl ?_
            refine ax_ior dWa_actFrom_373 ?_
            refine ax_iload (i := 9) dWa_actFrom_374 rfl ?_
            refine ax_ior dWa_actFrom_376 ?_
            replace hf := ite_c hf
            rcases hf with ⟨hc, hf⟩ | ⟨hc, hf⟩
            · refine ax_if_neF 389 dWa_actFrom_377 (by decide) hc ?_
              refine ax_iload (i := 10) dWa_actFrom_380 rfl ?_
              replace hf := ite_c hf
              rcases hf with ⟨hc, hf⟩ | ⟨hc, hf⟩
              · refine ax_if_neF 389 dWa_actFrom_382 (by decide) hc ?_
                refine ax_iconst (1 : Int32) dWa_actFrom_385 k32_1 ?_
                refine ax_goto 390 dWa_actFrom_386 (by decide) ?_
                cases hf
                exact Hr _ _ dWa_actFrom_390
              · refine ax_if_neT 389 dWa_actFrom_382 (by decide) hc ?_
                refine ax_iconst (0 : Int32) dWa_actFrom_389 k32_0 ?_
                cases hf
                exact Hr _ _ dWa_actFrom_390
            · refine ax_if_neT 389 dWa_actFrom_377 (by decide) hc ?_
              refine ax_iconst (0 : Int32) dWa_actFrom_389 k32_0 ?_
              cases hf
              exact Hr _ _ dWa_actFrom_390
          replace hf := hT
          clear hT
          replace hf := ite_c hf
          rcases hf with ⟨hc, hf⟩ | ⟨hc, hf⟩
          · refine ax_if_eqT 363 dWa_actFrom_337 (by decide) hc ?_
            refine ax_iconst (0 : Int32) dWa_actFrom_363 k32_0 ?_
            refine ax_mask [false, true, false, false, false, false, true, true, true, true, true] rfl [none, none, none, none, none, none, some (.int x23), some (.int x30), some (.int x37), some (.int x44), none] rfl ?_
            cases hf
            exact K
          · refine ax_if_eqF 363 dWa_actFrom_337 (by decide) hc ?_
            refine ax_aload_n (i := 0) (some o) dWa_actFrom_340 rfl rfl ?_
            replace hf := bd1_s hf
            obtain ⟨r76, e_r76, hf⟩ := hf
            refine ax_getR fl_126 rfl dWa_actFrom_341 e_r76 ?_
            refine ax_iload_n (i := 3) dWa_actFrom_344 rfl rfl ?_
            replace hf := bd1_s hf
            obtain ⟨a77, e_d, hf⟩ := hf
            subst e_d
            replace hf := bd1_s hf
            obtain ⟨x78, e_x78, hf⟩ := hf
            obtain ⟨k_e_x78, e_x78⟩ := cv_s e_x78
            refine ax_callV (As := [.int x8]) (rest := []) (c_Ta_mayEnd e_x78) ml_558 cm_Ta_mayEnd rfl k_e_x78 (Nat.le_trans (Nat.le_of_ble_eq_true rfl) hR1) (Nat.le_trans (Nat.le_of_ble_eq_true rfl) hR2) rfl rfl (Nat.le_of_ble_eq_true rfl) dWa_actFrom_345 ?_
            replace hf := ite_c hf
            rcases hf with ⟨hc, hf⟩ | ⟨hc, hf⟩
            · refine ax_if_eqT 363 dWa_actFrom_348 (by decide) hc ?_
              refine ax_iconst (0 : Int32) dWa_actFrom_363 k32_0 ?_
              refine ax_mask [false, true, false, false, false, false, true, true, true, true, true] rfl [none, none, none, none, none, none, some (.int x23), some (.int x30), some (.int x37), some (.int x44), none] rfl ?_
              cases hf
              exact K
            · refine ax_if_eqF 363 dWa_actFrom_348 (by decide) hc ?_
              refine ax_iload (i := 5) dWa_actFrom_351 rfl ?_
              refine ax_iload (i := 4) dWa_actFrom_353 rfl ?_
              refine ax_ior dWa_actFrom_355 ?_
              replace hf := ite_c hf
              rcases hf with ⟨hc, hf⟩ | ⟨hc, hf⟩
              · refine ax_if_neF 363 dWa_actFrom_356 (by decide) hc ?_
                refine ax_iconst (1 : Int32) dWa_actFrom_359 k32_1 ?_
                refine ax_goto 364 dWa_actFrom_360 (by decide) ?_
                refine ax_mask [false, true, false, false, false, false, true, true, true, true, true] rfl [none, none, none, none, none, none, some (.int x23), some (.int x30), some (.int x37), some (.int x44), none] rfl ?_
                cases hf
                exact K
              · refine ax_if_neT 363 dWa_actFrom_356 (by decide) hc ?_
                refine ax_iconst (0 : Int32) dWa_actFrom_363 k32_0 ?_
                refine ax_mask [false, true, false, false, false, false, true, true, true, true, true] rfl [none, none, none, none, none, none, some (.int x23), some (.int x30), some (.int x37), some (.int x44), none] rfl ?_
                cases hf
                exact K
        replace hf := hT
        clear hT
        replace hf := ite_c hf
        rcases hf with ⟨hc, hf⟩ | ⟨hc, hf⟩
        · refine ax_if_eqT 329 dWa_actFrom_293 (by decide) hc ?_
          refine ax_mask [true, false, true, true, true, true, true, true, true, true, true] rfl [some (va_rf (some o)), none, some (.int x4), some (.int x8), some (.int x12), some (.int x16), some (.int x23), some (.int x30), some (.int x37), some (.int x44), none] rfl ?_
          cases hf
          exact K
        · refine ax_if_eqF 329 dWa_actFrom_293 (by decide) hc ?_
          refine ax_aload_n (i := 0) (some o) dWa_actFrom_296 rfl rfl ?_
          refine ax_iload_n (i := 2) dWa_actFrom_297 rfl rfl ?_
          refine ax_aload_n (i := 0) (some o) dWa_actFrom_298 rfl rfl ?_
          replace hf := bd1_s hf
          obtain ⟨r67, e_r67, hf⟩ := hf
          refine ax_getR fl_126 rfl dWa_actFrom_299 e_r67 ?_
          refine ax_iload_n (i := 3) dWa_actFrom_302 rfl rfl ?_
          refine ax_iconst (0 : Int32) dWa_actFrom_303 k32_0 ?_
          refine ax_iload (i := 4) dWa_actFrom_304 rfl ?_
          refine ax_bipush (15 : Int32) dWa_actFrom_306 k8_15 ?_
          refine ax_iand dWa_actFrom_308 ?_
          refine ax_iconst (1 : Int32) dWa_actFrom_309 k32_1 ?_
          refine ax_isub dWa_actFrom_310 ?_
          replace hf := bd1_s hf
          obtain ⟨a68, e_d, hf⟩ := hf
          subst e_d
          replace hf := bd1_s hf
          obtain ⟨x69, e_x69, hf⟩ := hf
          obtain ⟨k_e_x69, e_x69⟩ := cv_s e_x69
          refine ax_callV (As := [.int x8, .int (0 : Int32), .int ((x12 &&& (15 : Int32)) - (1 : Int32))]) (rest := [.int x4, va_rf (some o)]) (c_Ta_behind e_x69) ml_554 cm_Ta_behind rfl k_e_x69 (Nat.le_trans (Nat.le_of_ble_eq_true rfl) hR1) (Nat.le_trans (Nat.le_of_ble_eq_true rfl) hR2) rfl rfl (Nat.le_of_ble_eq_true rfl) dWa_actFrom_311 ?_
          refine ax_iload (i := 4) dWa_actFrom_314 rfl ?_
          refine ax_iconst (4 : Int32) dWa_actFrom_316 k32_4 ?_
          refine ax_ishr dWa_actFrom_317 ?_
          refine ax_iload (i := 5) dWa_actFrom_318 rfl ?_
          replace hf := bd1_s hf
          obtain ⟨x70, e_x70, hf⟩ := hf
          refine ax_callS (As := [.int x4, .int x69, .int (x12 >>> ((4 : Int32) &&& 31)), .int x16]) (rest := [va_rf (some o)]) (c_Wa_place e_x70) ml_555 cm_Wa_place (Nat.le_trans (Nat.le_of_ble_eq_true rfl) hR1) (Nat.le_trans (Nat.le_of_ble_eq_true rfl) hR2) rfl rfl (Nat.le_of_ble_eq_true rfl) dWa_actFrom_320 ?_
          refine ax_iload_n (i := 1) dWa_actFrom_323 rfl rfl ?_
          refine ax_bipush (17 : Int32) dWa_actFrom_324 k8_17 ?_
          replace hf := bd1_s hf
          obtain ⟨h71, e_h71, hf⟩ := hf
          obtain ⟨k_e_h71, e_h71⟩ := cv_s e_h71
          refine ax_callV (As := [.int x70, .int p1, .int (17 : Int32)]) (rest := []) (c_Wa_reach e_h71) ml_544 cm_Wa_reach rfl k_e_h71 (Nat.le_trans (Nat.le_of_ble_eq_true rfl) hR1) (Nat.le_trans (Nat.le_of_ble_eq_true rfl) hR2) rfl rfl (Nat.le_of_ble_eq_true rfl) dWa_actFrom_326 ?_
          refine ax_mask [true, false, true, true, true, true, true, true, true, true, true] rfl [some (va_rf (some o)), none, some (.int x4), some (.int x8), some (.int x12), some (.int x16), some (.int x23), some (.int x30), some (.int x37), some (.int x44), none] rfl ?_
          cases hf
          exact K
      replace hf := hT
      clear hT
      replace hf := ite_c hf
      rcases hf with ⟨hc, hf⟩ | ⟨hc, hf⟩
      · refine ax_if_eqT 291 dWa_actFrom_255 (by decide) hc ?_
        cases hf
        exact K
      · refine ax_if_eqF 291 dWa_actFrom_255 (by decide) hc ?_
        refine ax_aload_n (i := 0) (some o) dWa_actFrom_258 rfl rfl ?_
        refine ax_aload_n (i := 0) (some o) dWa_actFrom_259 rfl rfl ?_
        replace hf := bd1_s hf
        obtain ⟨r61, e_r61, hf⟩ := hf
        refine ax_getR fl_125 rfl dWa_actFrom_260 e_r61 ?_
        refine ax_iload_n (i := 2) dWa_actFrom_263 rfl rfl ?_
        refine ax_iconst (0 : Int32) dWa_actFrom_264 k32_0 ?_
        refine ax_iload (i := 5) dWa_actFrom_265 rfl ?_
        refine ax_bipush (15 : Int32) dWa_actFrom_267 k8_15 ?_
        refine ax_iand dWa_actFrom_269 ?_
        refine ax_iconst (1 : Int32) dWa_actFrom_270 k32_1 ?_
        refine ax_isub dWa_actFrom_271 ?_
        replace hf := bd1_s hf
        obtain ⟨a62, e_d, hf⟩ := hf
        subst e_d
        replace hf := bd1_s hf
        obtain ⟨x63, e_x63, hf⟩ := hf
        obtain ⟨k_e_x63, e_x63⟩ := cv_s e_x63
        refine ax_callV (As := [.int x4, .int (0 : Int32), .int ((x16 &&& (15 : Int32)) - (1 : Int32))]) (rest := [va_rf (some o)]) (c_Ta_behind e_x63) ml_554 cm_Ta_behind rfl k_e_x63 (Nat.le_trans (Nat.le_of_ble_eq_true rfl) hR1) (Nat.le_trans (Nat.le_of_ble_eq_true rfl) hR2) rfl rfl (Nat.le_of_ble_eq_true rfl) dWa_actFrom_272 ?_
        refine ax_iload_n (i := 3) dWa_actFrom_275 rfl rfl ?_
        refine ax_iload (i := 4) dWa_actFrom_276 rfl ?_
        refine ax_iload (i := 5) dWa_actFrom_278 rfl ?_
        refine ax_iconst (4 : Int32) dWa_actFrom_280 k32_4 ?_
        refine ax_ishr dWa_actFrom_281 ?_
        replace hf := bd1_s hf
        obtain ⟨x64, e_x64, hf⟩ := hf
        refine ax_callS (As := [.int x63, .int x8, .int x12, .int (x16 >>> ((4 : Int32) &&& 31))]) (rest := [va_rf (some o)]) (c_Wa_place e_x64) ml_555 cm_Wa_place (Nat.le_trans (Nat.le_of_ble_eq_true rfl) hR1) (Nat.le_trans (Nat.le_of_ble_eq_true rfl) hR2) rfl rfl (Nat.le_of_ble_eq_true rfl) dWa_actFrom_282 ?_
        refine ax_iload_n (i := 1) dWa_actFrom_285 rfl rfl ?_
        refine ax_bipush (16 : Int32) dWa_actFrom_286 k8_16 ?_
        replace hf := bd1_s hf
        obtain ⟨h65, e_h65, hf⟩ := hf
        obtain ⟨k_e_h65, e_h65⟩ := cv_s e_h65
        refine ax_callV (As := [.int x64, .int p1, .int (16 : Int32)]) (rest := []) (c_Wa_reach e_h65) ml_544 cm_Wa_reach rfl k_e_h65 (Nat.le_trans (Nat.le_of_ble_eq_true rfl) hR1) (Nat.le_trans (Nat.le_of_ble_eq_true rfl) hR2) rfl rfl (Nat.le_of_ble_eq_true rfl) dWa_actFrom_288 ?_
        cases hf
        exact K
    replace hf := hT
    clear hT
    replace hf := ite_c hf
    rcases hf with ⟨hc, hf⟩ | ⟨hc, hf⟩
    · refine ax_if_eqT 97 dWa_actFrom_82 (by decide) hc ?_
      refine ax_iconst (0 : Int32) dWa_actFrom_97 k32_0 ?_
      cases hf
      exact K
    · refine ax_if_eqF 97 dWa_actFrom_82 (by decide) hc ?_
      refine ax_aload_n (i := 0) (some o) dWa_actFrom_85 rfl rfl ?_
      replace hf := bd1_s hf
      obtain ⟨r25, e_r25, hf⟩ := hf
      refine ax_getR fl_126 rfl dWa_actFrom_86 e_r25 ?_
      replace hf := bd1_s hf
      obtain ⟨a26, e_d, hf⟩ := hf
      subst e_d
      replace hf := bd1_s hf
      obtain ⟨r27, e_r27, hf⟩ := hf
      refine ax_getR fl_481 rfl dWa_actFrom_89 e_r27 ?_
      refine ax_iload_n (i := 3) dWa_actFrom_92 rfl rfl ?_
      replace hf := bd1_s hf
      obtain ⟨a28, e_d, hf⟩ := hf
      subst e_d
      replace hf := bd1_s hf
      obtain ⟨x29, e_x29, hf⟩ := hf
      refine ax_iald dWa_actFrom_93 e_x29 ?_
      refine ax_goto 98 dWa_actFrom_94 (by decide) ?_
      cases hf
      exact K
  replace hf := hT
  clear hT
  replace hf := ite_c hf
  rcases hf with ⟨hc, hf⟩ | ⟨hc, hf⟩
  · refine ax_if_eqT 73 dWa_actFrom_58 (by decide) hc ?_
    refine ax_iconst (0 : Int32) dWa_actFrom_73 k32_0 ?_
    cases hf
    exact K
  · refine ax_if_eqF 73 dWa_actFrom_58 (by decide) hc ?_
    refine ax_aload_n (i := 0) (some o) dWa_actFrom_61 rfl rfl ?_
    replace hf := bd1_s hf
    obtain ⟨r18, e_r18, hf⟩ := hf
    refine ax_getR fl_125 rfl dWa_actFrom_62 e_r18 ?_
    replace hf := bd1_s hf
    obtain ⟨a19, e_d, hf⟩ := hf
    subst e_d
    replace hf := bd1_s hf
    obtain ⟨r20, e_r20, hf⟩ := hf
    refine ax_getR fl_481 rfl dWa_actFrom_65 e_r20 ?_
    refine ax_iload_n (i := 2) dWa_actFrom_68 rfl rfl ?_
    replace hf := bd1_s hf
    obtain ⟨a21, e_d, hf⟩ := hf
    subst e_d
    replace hf := bd1_s hf
    obtain ⟨x22, e_x22, hf⟩ := hf
    refine ax_iald dWa_actFrom_69 e_x22 ?_
    refine ax_goto 74 dWa_actFrom_70 (by decide) ?_
    cases hf
    exact K
theorem c_Wa_actFrom {l : Launch} {E : EN} {h0 : AH} {o : Nat} {p1 : Int32} {r : Int32} {hF : AH} (hf : f_Wa_actFrom h0 o p1 = some (r, hF)) : AM l E 2 mi_Wa_actFrom [va_rf (some o), .int p1] h0 (some (.int r)) hF :=
  am_of2 [(va_rf (some o), false), (.int p1, false)] 9 ⟨cat_rf _, rfl, trivial⟩ rfl rfl (v_Wa_actFrom (Nat.le_refl _) (Nat.le_refl _) (fun pc L hd => ax_iret rfl hd rfl) hf)
theorem w_Wa_keepWay_L7 {l : Launch} {E : EN} {R : Room} {B : (Nat × Nat) × (Nat × Nat)} {Qf : QF} {ρ : Type} {res : ρ} (hR1 : 1 ≤ R.frames) (hR2 : 64 ≤ R.locals) {y0 : Nat} {k : AH → Option (ρ)} (hk : ∀ (h : AH), k h = some res → AW l E mi_Wa_keepWay R B Qf 56 [some (va_rf (some y0)), none, none, none] [] h) : ∀ (n : Nat) (z2 : Int32) (h : AH), f_Wa_keepWay_L7 y0 k n z2 h = some res → AW l E mi_Wa_keepWay R B Qf 7 [some (va_rf (some y0)), none, some (.int z2), none] [] h := by
  intro n
  induction n with
  | zero => intro z2 h hf; cases hf
  | succ n ih =>
    intro z2 h hf
    rw [f_Wa_keepWay_L7] at hf
    refine ax_iload_n (i := 2) dWa_keepWay_7 rfl rfl ?_
    replace hf := ite_c hf
    rcases hf with ⟨hc, hf⟩ | ⟨hc, hf⟩
    · refine ax_if_leF 56 dWa_keepWay_8 (by decide) hc ?_
      refine ax_aload_n (i := 0) (some y0) dWa_keepWay_11 rfl rfl ?_
      replace hf := bd1_s hf
      obtain ⟨x2, e_x2, hf⟩ := hf
      refine ax_getI fl_124 rfl dWa_keepWay_12 e_x2 ?_
      refine ax_sipush (4000 : Int32) dWa_keepWay_15 k16_4000 ?_
      replace hf := ite_c hf
      rcases hf with ⟨hc, hf⟩ | ⟨hc, hf⟩
      · refine ax_icmp_geF 56 dWa_keepWay_18 (by decide) hc ?_
        refine ax_aload_n (i := 0) (some y0) dWa_keepWay_21 rfl rfl ?_
        replace hf := bd1_s hf
        obtain ⟨r3, e_r3, hf⟩ := hf
        refine ax_getR fl_123 rfl dWa_keepWay_22 e_r3 ?_
        refine ax_aload_n (i := 0) (some y0) dWa_keepWay_25 rfl rfl ?_
        replace hf := bd1_s hf
        obtain ⟨x4, e_x4, hf⟩ := hf
        refine ax_getI fl_124 rfl dWa_keepWay_26 e_x4 ?_
        refine ax_aload_n (i := 0) (some y0) dWa_keepWay_29 rfl rfl ?_
        replace hf := bd1_s hf
        obtain ⟨r5, e_r5, hf⟩ := hf
        refine ax_getR fl_118 rfl dWa_keepWay_30 e_r5 ?_
        refine ax_iload_n (i := 2) dWa_keepWay_33 rfl rfl ?_
        replace hf := bd1_s hf
        obtain ⟨a6, e_d, hf⟩ := hf
        subst e_d
        replace hf := bd1_s hf
        obtain ⟨x7, e_x7, hf⟩ := hf
        refine ax_iald dWa_keepWay_34 e_x7 ?_
        replace hf := bd1_s hf
        obtain ⟨a8, e_d, hf⟩ := hf
        subst e_d
        replace hf := bd1_s hf
        obtain ⟨h9, e_h9, hf⟩ := hf
        refine ax_iast dWa_keepWay_35 e_h9 ?_
        refine ax_aload_n (i := 0) (some y0) dWa_keepWay_36 rfl rfl ?_
        refine ax_dup dWa_keepWay_37 rfl ?_
        replace hf := bd1_s hf
        obtain ⟨x10, e_x10, hf⟩ := hf
        refine ax_getI fl_124 rfl dWa_keepWay_38 e_x10 ?_
        refine ax_iconst (1 : Int32) dWa_keepWay_41 k32_1 ?_
        refine ax_iadd dWa_keepWay_42 ?_
        replace hf := bd1_s hf
        obtain ⟨h11, e_h11, hf⟩ := hf
        refine ax_putI fw_124 rfl rfl dWa_keepWay_43 e_h11 ?_
        refine ax_aload_n (i := 0) (some y0) dWa_keepWay_46 rfl rfl ?_
        replace hf := bd1_s hf
        obtain ⟨r12, e_r12, hf⟩ := hf
        refine ax_getR fl_117 rfl dWa_keepWay_47 e_r12 ?_
        refine ax_iload_n (i := 2) dWa_keepWay_50 rfl rfl ?_
        replace hf := bd1_s hf
        obtain ⟨a13, e_d, hf⟩ := hf
        subst e_d
        replace hf := bd1_s hf
        obtain ⟨x14, e_x14, hf⟩ := hf
        refine ax_iald dWa_keepWay_51 e_x14 ?_
        refine ax_istore_n (i := 2) [some (va_rf (some y0)), none, some (.int x14), none] dWa_keepWay_52 rfl (Nat.le_of_ble_eq_true rfl) (Or.inr (c1n rfl)) rfl ?_
        refine ax_goto 7 dWa_keepWay_53 (by decide) ?_
        exact ih x14 h11 hf
      · refine ax_icmp_geT 56 dWa_keepWay_18 (by decide) hc ?_
        refine ax_mask [true, true, false, true] rfl [some (va_rf (some y0)), none, none, none] rfl ?_
        exact hk h hf
    · refine ax_if_leT 56 dWa_keepWay_8 (by decide) hc ?_
      refine ax_mask [true, true, false, true] rfl [some (va_rf (some y0)), none, none, none] rfl ?_
      exact hk h hf
theorem w_Wa_keepWay_L58 {l : Launch} {E : EN} {R : Room} {B : (Nat × Nat) × (Nat × Nat)} {Qf : QF} {hF : AH} (hR1 : 1 ≤ R.frames) (hR2 : 64 ≤ R.locals) (Hr : ∀ (pc : Nat) (L : List (Option Value)), decode mi_Wa_keepWay.2.1 pc = .ok (.return_, 1) → AW l E mi_Wa_keepWay R B Qf pc L [] hF) {y0 : Nat} : ∀ (n : Nat) (z2 : Int32) (h : AH), f_Wa_keepWay_L58 y0 n z2 h = some hF → AW l E mi_Wa_keepWay R B Qf 58 [some (va_rf (some y0)), none, some (.int z2), none] [] h := by
  intro n
  induction n with
  | zero => intro z2 h hf; cases hf
  | succ n ih =>
    intro z2 h hf
    rw [f_Wa_keepWay_L58] at hf
    refine ax_iload_n (i := 2) dWa_keepWay_58 rfl rfl ?_
    refine ax_aload_n (i := 0) (some y0) dWa_keepWay_59 rfl rfl ?_
    replace hf := bd1_s hf
    obtain ⟨x16, e_x16, hf⟩ := hf
    refine ax_getI fl_124 rfl dWa_keepWay_60 e_x16 ?_
    refine ax_iconst (2 : Int32) dWa_keepWay_63 k32_2 ?_
    refine ax_idiv dWa_keepWay_64 (by decide) ?_
    replace hf := ite_c hf
    rcases hf with ⟨hc, hf⟩ | ⟨hc, hf⟩
    · refine ax_icmp_geF 114 dWa_keepWay_65 (by decide) hc ?_
      refine ax_aload_n (i := 0) (some y0) dWa_keepWay_68 rfl rfl ?_
      replace hf := bd1_s hf
      obtain ⟨r17, e_r17, hf⟩ := hf
      refine ax_getR fl_123 rfl dWa_keepWay_69 e_r17 ?_
      refine ax_iload_n (i := 2) dWa_keepWay_72 rfl rfl ?_
      replace hf := bd1_s hf
      obtain ⟨a18, e_d, hf⟩ := hf
      subst e_d
      replace hf := bd1_s hf
      obtain ⟨x19, e_x19, hf⟩ := hf
      refine ax_iald dWa_keepWay_73 e_x19 ?_
      refine ax_istore_n (i := 3) [some (va_rf (some y0)), none, some (.int z2), some (.int x19)] dWa_keepWay_74 rfl (Nat.le_of_ble_eq_true rfl) (Or.inr (c1i rfl)) rfl ?_
      refine ax_aload_n (i := 0) (some y0) dWa_keepWay_75 rfl rfl ?_
      replace hf := bd1_s hf
      obtain ⟨r20, e_r20, hf⟩ := hf
      refine ax_getR fl_123 rfl dWa_keepWay_76 e_r20 ?_
      refine ax_iload_n (i := 2) dWa_keepWay_79 rfl rfl ?_
      refine ax_aload_n (i := 0) (some y0) dWa_keepWay_80 rfl rfl ?_
      replace hf := bd1_s hf
      obtain ⟨r21, e_r21, hf⟩ := hf
      refine ax_getR fl_123 rfl dWa_keepWay_81 e_r21 ?_
      refine ax_aload_n (i := 0) (some y0) dWa_keepWay_84 rfl rfl ?_
      replace hf := bd1_s hf
      obtain ⟨x22, e_x22, hf⟩ := hf
      refine ax_getI fl_124 rfl dWa_keepWay_85 e_x22 ?_
      refine ax_iconst (1 : Int32) dWa_keepWay_88 k32_1 ?_
      refine ax_isub dWa_keepWay_89 ?_
      refine ax_iload_n (i := 2) dWa_keepWay_90 rfl rfl ?_
      refine ax_isub dWa_keepWay_91 ?_
      replace hf := bd1_s hf
      obtain ⟨a23, e_d, hf⟩ := hf
      subst e_d
      replace hf := bd1_s hf
      obtain ⟨x24, e_x24, hf⟩ := hf
      refine ax_iald dWa_keepWay_92 e_x24 ?_
      replace hf := bd1_s hf
      obtain ⟨a25, e_d, hf⟩ := hf
      subst e_d
      replace hf := bd1_s hf
      obtain ⟨h26, e_h26, hf⟩ := hf
      refine ax_iast dWa_keepWay_93 e_h26 ?_
      refine ax_aload_n (i := 0) (some y0) dWa_keepWay_94 rfl rfl ?_
      replace hf := bd1_s hf
      obtain ⟨r27, e_r27, hf⟩ := hf
      refine ax_getR fl_123 rfl dWa_keepWay_95 e_r27 ?_
      refine ax_aload_n (i := 0) (some y0) dWa_keepWay_98 rfl rfl ?_
      replace hf := bd1_s hf
      obtain ⟨x28, e_x28, hf⟩ := hf
      refine ax_getI fl_124 rfl dWa_keepWay_99 e_x28 ?_
      refine ax_iconst (1 : Int32) dWa_keepWay_102 k32_1 ?_
      refine ax_isub dWa_keepWay_103 ?_
      refine ax_iload_n (i := 2) dWa_keepWay_104 rfl rfl ?_
      refine ax_isub dWa_keepWay_105 ?_
      refine ax_iload_n (i := 3) dWa_keepWay_106 rfl rfl ?_
      replace hf := bd1_s hf
      obtain ⟨a29, e_d, hf⟩ := hf
      subst e_d
      replace hf := bd1_s hf
      obtain ⟨h30, e_h30, hf⟩ := hf
      refine ax_iast dWa_keepWay_107 e_h30 ?_
      refine ax_iinc (i := 2) (z2 + (1 : Int32)) [some (va_rf (some y0)), none, some (.int (z2 + (1 : Int32))), some (.int x19)] dWa_keepWay_108 rfl (iic k32_1) (Or.inr (c1n rfl)) rfl ?_
      refine ax_goto 58 dWa_keepWay_111 (by decide) ?_
      refine ax_mask [true, true, true, false] rfl [some (va_rf (some y0)), none, some (.int (z2 + (1 : Int32))), none] rfl ?_
      exact ih (z2 + (1 : Int32)) h30 hf
    · refine ax_icmp_geT 114 dWa_keepWay_65 (by decide) hc ?_
      cases hf
      exact Hr _ _ dWa_keepWay_114
theorem v_Wa_keepWay {l : Launch} {E : EN} {R : Room} {B : (Nat × Nat) × (Nat × Nat)} {Qf : QF} {h0 : AH} {o : Nat} {p1 : Int32} {hF : AH} (hR1 : 1 ≤ R.frames) (hR2 : 64 ≤ R.locals) (Hr : ∀ (pc : Nat) (L : List (Option Value)), decode mi_Wa_keepWay.2.1 pc = .ok (.return_, 1) → AW l E mi_Wa_keepWay R B Qf pc L [] hF) (hf : f_Wa_keepWay h0 o p1 = some hF) : AW l E mi_Wa_keepWay R B Qf 0 [some (va_rf (some o)), some (.int p1), none, none] [] h0 := by
  unfold f_Wa_keepWay at hf
  refine ax_aload_n (i := 0) (some o) dWa_keepWay_0 rfl rfl ?_
  refine ax_iconst (0 : Int32) dWa_keepWay_1 k32_0 ?_
  replace hf := bd1_s hf
  obtain ⟨h1, e_h1, hf⟩ := hf
  refine ax_putI fw_124 rfl rfl dWa_keepWay_2 e_h1 ?_
  refine ax_iload_n (i := 1) dWa_keepWay_5 rfl rfl ?_
  refine ax_istore_n (i := 2) [some (va_rf (some o)), some (.int p1), some (.int p1), none] dWa_keepWay_6 rfl (Nat.le_of_ble_eq_true rfl) (Or.inr (c1i rfl)) rfl ?_
  refine ax_mask [true, false, true, true] rfl [some (va_rf (some o)), none, some (.int p1), none] rfl ?_
  refine w_Wa_keepWay_L7 hR1 hR2 (fun h15 hf => ?_) FU p1 h1 hf
  refine ax_iconst (0 : Int32) dWa_keepWay_56 k32_0 ?_
  refine ax_istore_n (i := 2) [some (va_rf (some o)), none, some (.int (0 : Int32)), none] dWa_keepWay_57 rfl (Nat.le_of_ble_eq_true rfl) (Or.inr (c1n rfl)) rfl ?_
  refine w_Wa_keepWay_L58 hR1 hR2 Hr FU (0 : Int32) h15 hf
theorem c_Wa_keepWay {l : Launch} {E : EN} {h0 : AH} {o : Nat} {p1 : Int32} {hF : AH} (hf : f_Wa_keepWay h0 o p1 = some hF) : AM l E 1 mi_Wa_keepWay [va_rf (some o), .int p1] h0 none hF :=
  am_of2 [(va_rf (some o), false), (.int p1, false)] 2 ⟨cat_rf _, rfl, trivial⟩ rfl rfl (v_Wa_keepWay (Nat.le_refl _) (Nat.le_refl _) (fun pc L hd => ax_vret rfl hd rfl) hf)
theorem w_Wa_through_L51 {l : Launch} {E : EN} {R : Room} {B : (Nat × Nat) × (Nat × Nat)} {Qf : QF} {ρ : Type} {res : ρ} (hR1 : 3 ≤ R.frames) (hR2 : 192 ≤ R.locals) {y0 : Nat} {k : Int32 → AH → Option (ρ)} (hk : ∀ (z4 : Int32) (h : AH), k z4 h = some res → AW l E mi_Wa_through R B Qf 125 [some (va_rf (some y0)), none, none, none, some (.int z4), none, none] [] h) : ∀ (n : Nat) (z4 : Int32) (z5 : Int32) (h : AH), f_Wa_through_L51 y0 k n z4 z5 h = some res → AW l E mi_Wa_through R B Qf 51 [some (va_rf (some y0)), none, none, none, some (.int z4), some (.int z5), none] [] h := by
  intro n
  induction n with
  | zero => intro z4 z5 h hf; cases hf
  | succ n ih =>
    intro z4 z5 h hf
    rw [f_Wa_through_L51] at hf
    refine ax_iload (i := 5) dWa_through_51 rfl ?_
    refine ax_aload_n (i := 0) (some y0) dWa_through_53 rfl rfl ?_
    replace hf := bd1_s hf
    obtain ⟨x10, e_x10, hf⟩ := hf
    refine ax_getI fl_119 rfl dWa_through_54 e_x10 ?_
    replace hf := ite_c hf
    rcases hf with ⟨hc, hf⟩ | ⟨hc, hf⟩
    · refine ax_icmp_geF 125 dWa_through_57 (by decide) hc ?_
      refine ax_iload (i := 5) dWa_through_60 rfl ?_
      refine ax_sipush (4000 : Int32) dWa_through_62 k16_4000 ?_
      replace hf := ite_c hf
      rcases hf with ⟨hc, hf⟩ | ⟨hc, hf⟩
      · refine ax_icmp_geF 125 dWa_through_65 (by decide) hc ?_
        refine ax_aload_n (i := 0) (some y0) dWa_through_68 rfl rfl ?_
        replace hf := bd1_s hf
        obtain ⟨x11, e_x11, hf⟩ := hf
        refine ax_getI fl_122 rfl dWa_through_69 e_x11 ?_
        replace hf := ite_c hf
        rcases hf with ⟨hc, hf⟩ | ⟨hc, hf⟩
        · refine ax_if_neF 125 dWa_through_72 (by decide) hc ?_
          refine ax_aload_n (i := 0) (some y0) dWa_through_75 rfl rfl ?_
          replace hf := bd1_s hf
          obtain ⟨x12, e_x12, hf⟩ := hf
          refine ax_getI fl_127 rfl dWa_through_76 e_x12 ?_
          replace hf := bd2_s hf
          obtain ⟨x17, h18, hT, hf⟩ := hf
          have K : AW l E mi_Wa_through R B Qf 97 [some (va_rf (some y0)), none, none, none, some (.int z4), some (.int z5), none] [.int x17] h18 := by
            clear hT
            refine ax_istore (i := 6) [some (va_rf (some y0)), none, none, none, some (.int z4), some (.int z5), some (.int x17)] dWa_through_97 (Nat.le_of_ble_eq_true rfl) (Or.inr (c1i rfl)) rfl ?_
            refine ax_iload (i := 4) dWa_through_99 rfl ?_
            replace hf := ite_c hf
            rcases hf with ⟨hc, hf⟩ | ⟨hc, hf⟩
            · refine ax_if_neF 119 dWa_through_101 (by decide) hc ?_
              refine ax_iload (i := 6) dWa_through_104 rfl ?_
              replace hf := ite_c hf
              rcases hf with ⟨hc, hf⟩ | ⟨hc, hf⟩
              · refine ax_if_eqT 119 dWa_through_106 (by decide) hc ?_
                refine ax_iinc (i := 5) (z5 + (1 : Int32)) [some (va_rf (some y0)), none, none, none, some (.int z4), some (.int (z5 + (1 : Int32))), some (.int x17)] dWa_through_119 rfl (iic k32_1) (Or.inr (c1i rfl)) rfl ?_
                refine ax_goto 51 dWa_through_122 (by decide) ?_
                refine ax_mask [true, true, true, true, true, true, false] rfl [some (va_rf (some y0)), none, none, none, some (.int z4), some (.int (z5 + (1 : Int32))), none] rfl ?_
                exact ih z4 (z5 + (1 : Int32)) h18 hf
              · refine ax_if_eqF 119 dWa_through_106 (by decide) hc ?_
                refine ax_iload (i := 6) dWa_through_109 rfl ?_
                refine ax_istore (i := 4) [some (va_rf (some y0)), none, none, none, some (.int x17), some (.int z5), some (.int x17)] dWa_through_111 (Nat.le_of_ble_eq_true rfl) (Or.inr (c1n rfl)) rfl ?_
                refine ax_aload_n (i := 0) (some y0) dWa_through_113 rfl rfl ?_
                refine ax_iload (i := 5) dWa_through_114 rfl ?_
                replace hf := bd1_s hf
                obtain ⟨h19, e_h19, hf⟩ := hf
                obtain ⟨k_e_h19, e_h19⟩ := cv_s e_h19
                refine ax_callV (As := [.int z5]) (rest := []) (c_Wa_keepWay e_h19) ml_573 cm_Wa_keepWay rfl k_e_h19 (Nat.le_trans (Nat.le_of_ble_eq_true rfl) hR1) (Nat.le_trans (Nat.le_of_ble_eq_true rfl) hR2) rfl rfl (Nat.le_of_ble_eq_true rfl) dWa_through_116 ?_
                refine ax_iinc (i := 5) (z5 + (1 : Int32)) [some (va_rf (some y0)), none, none, none, some (.int x17), some (.int (z5 + (1 : Int32))), some (.int x17)] dWa_through_119 rfl (iic k32_1) (Or.inr (c1i rfl)) rfl ?_
                refine ax_goto 51 dWa_through_122 (by decide) ?_
                refine ax_mask [true, true, true, true, true, true, false] rfl [some (va_rf (some y0)), none, none, none, some (.int x17), some (.int (z5 + (1 : Int32))), none] rfl ?_
                exact ih x17 (z5 + (1 : Int32)) h19 hf
            · refine ax_if_neT 119 dWa_through_101 (by decide) hc ?_
              refine ax_iinc (i := 5) (z5 + (1 : Int32)) [some (va_rf (some y0)), none, none, none, some (.int z4), some (.int (z5 + (1 : Int32))), some (.int x17)] dWa_through_119 rfl (iic k32_1) (Or.inr (c1i rfl)) rfl ?_
              refine ax_goto 51 dWa_through_122 (by decide) ?_
              refine ax_mask [true, true, true, true, true, true, false] rfl [some (va_rf (some y0)), none, none, none, some (.int z4), some (.int (z5 + (1 : Int32))), none] rfl ?_
              exact ih z4 (z5 + (1 : Int32)) h18 hf
          replace hf := hT
          clear hT
          replace hf := ite_c hf
          rcases hf with ⟨hc, hf⟩ | ⟨hc, hf⟩
          · refine ax_if_neF 91 dWa_through_79 (by decide) hc ?_
            refine ax_aload_n (i := 0) (some y0) dWa_through_82 rfl rfl ?_
            refine ax_iload (i := 5) dWa_through_83 rfl ?_
            replace hf := bd2_s hf
            obtain ⟨x15, h16, e_x15, hf⟩ := hf
            obtain ⟨k_e_x15, e_x15⟩ := cv_s e_x15
            refine ax_callV (As := [.int z5]) (rest := []) (c_Wa_passFrom e_x15) ml_549 cm_Wa_passFrom rfl k_e_x15 (Nat.le_trans (Nat.le_of_ble_eq_true rfl) hR1) (Nat.le_trans (Nat.le_of_ble_eq_true rfl) hR2) rfl rfl (Nat.le_of_ble_eq_true rfl) dWa_through_85 ?_
            refine ax_goto 97 dWa_through_88 (by decide) ?_
            cases hf
            exact K
          · refine ax_if_neT 91 dWa_through_79 (by decide) hc ?_
            refine ax_aload_n (i := 0) (some y0) dWa_through_91 rfl rfl ?_
            refine ax_iload (i := 5) dWa_through_92 rfl ?_
            replace hf := bd2_s hf
            obtain ⟨x13, h14, e_x13, hf⟩ := hf
            obtain ⟨k_e_x13, e_x13⟩ := cv_s e_x13
            refine ax_callV (As := [.int z5]) (rest := []) (c_Wa_actFrom e_x13) ml_559 cm_Wa_actFrom rfl k_e_x13 (Nat.le_trans (Nat.le_of_ble_eq_true rfl) hR1) (Nat.le_trans (Nat.le_of_ble_eq_true rfl) hR2) rfl rfl (Nat.le_of_ble_eq_true rfl) dWa_through_94 ?_
            cases hf
            exact K
        · refine ax_if_neT 125 dWa_through_72 (by decide) hc ?_
          refine ax_mask [true, true, true, true, true, false, true] rfl [some (va_rf (some y0)), none, none, none, some (.int z4), none, none] rfl ?_
          exact hk z4 h hf
      · refine ax_icmp_geT 125 dWa_through_65 (by decide) hc ?_
        refine ax_mask [true, true, true, true, true, false, true] rfl [some (va_rf (some y0)), none, none, none, some (.int z4), none, none] rfl ?_
        exact hk z4 h hf
    · refine ax_icmp_geT 125 dWa_through_57 (by decide) hc ?_
      refine ax_mask [true, true, true, true, true, false, true] rfl [some (va_rf (some y0)), none, none, none, some (.int z4), none, none] rfl ?_
      exact hk z4 h hf
theorem v_Wa_through {l : Launch} {E : EN} {R : Room} {B : (Nat × Nat) × (Nat × Nat)} {Qf : QF} {h0 : AH} {o : Nat} {p1 : Option Nat} {p2 : Option Nat} {p3 : Int32} {r : Int32} {hF : AH} (hR1 : 3 ≤ R.frames) (hR2 : 192 ≤ R.locals) (Hr : ∀ (pc : Nat) (L : List (Option Value)), decode mi_Wa_through.2.1 pc = .ok (.ireturn, 1) → AW l E mi_Wa_through R B Qf pc L [.int r] hF) (hf : f_Wa_through h0 o p1 p2 p3 = some (r, hF)) : AW l E mi_Wa_through R B Qf 0 [some (va_rf (some o)), some (va_rf p1), some (va_rf p2), some (.int p3), none, none, none] [] h0 := by
  unfold f_Wa_through at hf
  refine ax_aload_n (i := 0) (some o) dWa_through_0 rfl rfl ?_
  refine ax_aload_n (i := 1) p1 dWa_through_1 rfl rfl ?_
  replace hf := bd1_s hf
  obtain ⟨h1, e_h1, hf⟩ := hf
  refine ax_putR (v := p1) fw_125 rfl rfl dWa_through_2 e_h1 ?_
  refine ax_aload_n (i := 0) (some o) dWa_through_5 rfl rfl ?_
  refine ax_aload_n (i := 2) p2 dWa_through_6 rfl rfl ?_
  replace hf := bd1_s hf
  obtain ⟨h2, e_h2, hf⟩ := hf
  refine ax_putR (v := p2) fw_126 rfl rfl dWa_through_7 e_h2 ?_
  refine ax_aload_n (i := 0) (some o) dWa_through_10 rfl rfl ?_
  refine ax_iload_n (i := 3) dWa_through_11 rfl rfl ?_
  replace hf := bd1_s hf
  obtain ⟨h3, e_h3, hf⟩ := hf
  refine ax_putI fw_127 rfl rfl dWa_through_12 e_h3 ?_
  refine ax_aload_n (i := 0) (some o) dWa_through_15 rfl rfl ?_
  refine ax_iconst (0 : Int32) dWa_through_16 k32_0 ?_
  replace hf := bd1_s hf
  obtain ⟨h4, e_h4, hf⟩ := hf
  refine ax_putI fw_119 rfl rfl dWa_through_17 e_h4 ?_
  refine ax_aload_n (i := 0) (some o) dWa_through_20 rfl rfl ?_
  refine ax_iconst (0 : Int32) dWa_through_21 k32_0 ?_
  replace hf := bd1_s hf
  obtain ⟨h5, e_h5, hf⟩ := hf
  refine ax_putI fw_124 rfl rfl dWa_through_22 e_h5 ?_
  refine ax_aload_n (i := 0) (some o) dWa_through_25 rfl rfl ?_
  refine ax_iconst (0 : Int32) dWa_through_26 k32_0 ?_
  replace hf := bd1_s hf
  obtain ⟨h6, e_h6, hf⟩ := hf
  refine ax_putZ fw_122 rfl rfl dWa_through_27 e_h6 ?_
  refine ax_aload_n (i := 0) (some o) dWa_through_30 rfl rfl ?_
  replace hf := bd1_s hf
  obtain ⟨r7, e_r7, hf⟩ := hf
  refine ax_getR fl_121 rfl dWa_through_31 e_r7 ?_
  refine ax_iconst (0 : Int32) dWa_through_34 k32_0 ?_
  replace hf := bd1_s hf
  obtain ⟨h8, e_h8, hf⟩ := hf
  refine ax_callS (As := [va_rf r7, .int (0 : Int32)]) (rest := []) (c_jA_fill_I e_h8) ml_543 cm_jA_fill_I (Nat.le_trans (Nat.le_of_ble_eq_true rfl) hR1) (Nat.le_trans (Nat.le_of_ble_eq_true rfl) hR2) rfl rfl (Nat.le_of_ble_eq_true rfl) dWa_through_35 ?_
  refine ax_aload_n (i := 0) (some o) dWa_through_38 rfl rfl ?_
  refine ax_iconst (0 : Int32) dWa_through_39 k32_0 ?_
  refine ax_iconst (-1 : Int32) dWa_through_40 k32_m1 ?_
  refine ax_iconst (-1 : Int32) dWa_through_41 k32_m1 ?_
  replace hf := bd1_s hf
  obtain ⟨h9, e_h9, hf⟩ := hf
  obtain ⟨k_e_h9, e_h9⟩ := cv_s e_h9
  refine ax_callV (As := [.int (0 : Int32), .int (-1 : Int32), .int (-1 : Int32)]) (rest := []) (c_Wa_reach e_h9) ml_544 cm_Wa_reach rfl k_e_h9 (Nat.le_trans (Nat.le_of_ble_eq_true rfl) hR1) (Nat.le_trans (Nat.le_of_ble_eq_true rfl) hR2) rfl rfl (Nat.le_of_ble_eq_true rfl) dWa_through_42 ?_
  refine ax_iconst (0 : Int32) dWa_through_45 k32_0 ?_
  refine ax_istore (i := 4) [some (va_rf (some o)), some (va_rf p1), some (va_rf p2), some (.int p3), some (.int (0 : Int32)), none, none] dWa_through_46 (Nat.le_of_ble_eq_true rfl) (Or.inr (c1i rfl)) rfl ?_
  refine ax_iconst (0 : Int32) dWa_through_48 k32_0 ?_
  refine ax_istore (i := 5) [some (va_rf (some o)), some (va_rf p1), some (va_rf p2), some (.int p3), some (.int (0 : Int32)), some (.int (0 : Int32)), none] dWa_through_49 (Nat.le_of_ble_eq_true rfl) (Or.inr (c1i rfl)) rfl ?_
  refine ax_mask [true, false, false, false, true, true, true] rfl [some (va_rf (some o)), none, none, none, some (.int (0 : Int32)), some (.int (0 : Int32)), none] rfl ?_
  refine w_Wa_through_L51 hR1 hR2 (fun x20 h21 hf => ?_) FU (0 : Int32) (0 : Int32) h9 hf
  refine ax_aload_n (i := 0) (some o) dWa_through_125 rfl rfl ?_
  replace hf := bd1_s hf
  obtain ⟨x22, e_x22, hf⟩ := hf
  refine ax_getI fl_122 rfl dWa_through_126 e_x22 ?_
  replace hf := ite_c hf
  rcases hf with ⟨hc, hf⟩ | ⟨hc, hf⟩
  · refine ax_if_eqT 139 dWa_through_129 (by decide) hc ?_
    refine ax_iload (i := 4) dWa_through_139 rfl ?_
    cases hf
    exact Hr _ _ dWa_through_141
  · refine ax_if_eqF 139 dWa_through_129 (by decide) hc ?_
    refine ax_aload_n (i := 0) (some o) dWa_through_132 rfl rfl ?_
    refine ax_iconst (0 : Int32) dWa_through_133 k32_0 ?_
    replace hf := bd1_s hf
    obtain ⟨h23, e_h23, hf⟩ := hf
    refine ax_putI fw_124 rfl rfl dWa_through_134 e_h23 ?_
    refine ax_iconst (3 : Int32) dWa_through_137 k32_3 ?_
    cases hf
    exact Hr _ _ dWa_through_138
theorem c_Wa_through {l : Launch} {E : EN} {h0 : AH} {o : Nat} {p1 : Option Nat} {p2 : Option Nat} {p3 : Int32} {r : Int32} {hF : AH} (hf : f_Wa_through h0 o p1 p2 p3 = some (r, hF)) : AM l E 3 mi_Wa_through [va_rf (some o), va_rf p1, va_rf p2, .int p3] h0 (some (.int r)) hF :=
  am_of2 [(va_rf (some o), false), (va_rf p1, false), (va_rf p2, false), (.int p3, false)] 3 ⟨cat_rf _, cat_rf _, cat_rf _, rfl, trivial⟩ rfl rfl (v_Wa_through (Nat.le_refl _) (Nat.le_refl _) (fun pc L hd => ax_iret rfl hd rfl) hf)
