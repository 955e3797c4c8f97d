theorem w_M_seekAdapters_L21 {l : Launch} {E : EN} {R : Room} {B : (Nat × Nat) × (Nat × Nat)} {Qf : QF} {h0 : AH} {ρ : Type} {res : ρ} (hR1 : 5 ≤ R.frames) (hR2 : 320 ≤ R.locals) {y0 : Nat} {y1 : Int32} {y2 : Int32} {y3 : Int32} {y4 : Int32} {y5 : Int32} {y6 : Int32} {k : Int32 → Option (ρ)} (hk : ∀ (z7 : Int32), k z7 = some res → AW l E mi_M_seekAdapters R B Qf 44 [some (va_rf (some y0)), some (.int y1), some (.int y2), some (.int y3), some (.int y4), some (.int y5), some (.int y6), some (.int z7), none] [] h0) : ∀ (n : Nat) (z7 : Int32) (z8 : Int32), f_M_seekAdapters_L21 h0 y0 y1 y2 y3 y4 y5 y6 k n z7 z8 = some res → AW l E mi_M_seekAdapters R B Qf 21 [some (va_rf (some y0)), some (.int y1), some (.int y2), some (.int y3), some (.int y4), some (.int y5), some (.int y6), some (.int z7), some (.int z8)] [] h0 := by
  intro n
  induction n with
  | zero => intro z7 z8 hf; cases hf
  | succ n ih =>
    intro z7 z8 hf
    rw [f_M_seekAdapters_L21] at hf
    refine ax_iload (i := 8) dM_seekAdapters_21 rfl ?_
    refine ax_iload (i := 5) dM_seekAdapters_23 rfl ?_
    replace hf := bd1_s hf
    obtain ⟨x3, e_x3, hf⟩ := hf
    refine ax_callS (As := [.int y5]) (rest := [.int z8]) (c_M_ones e_x3) ml_1382 cm_M_ones (Nat.le_trans (Nat.le_of_ble_eq_true rfl) hR1) (Nat.le_trans (Nat.le_of_ble_eq_true rfl) hR2) rfl rfl (Nat.le_of_ble_eq_true rfl) dM_seekAdapters_25 ?_
    replace hf := ite_c hf
    rcases hf with ⟨hc, hf⟩ | ⟨hc, hf⟩
    · refine ax_icmp_geF 44 dM_seekAdapters_28 (by decide) hc ?_
      refine ax_iload (i := 7) dM_seekAdapters_31 rfl ?_
      refine ax_bipush (8 : Int32) dM_seekAdapters_33 k8_8 ?_
      refine ax_imul dM_seekAdapters_35 ?_
      replace hf := bd1_s hf
      obtain ⟨x4, e_x4, hf⟩ := hf
      refine ax_nmI (Option.some.inj e_x4) ?_
      refine ax_istore (i := 7) [some (va_rf (some y0)), some (.int y1), some (.int y2), some (.int y3), some (.int y4), some (.int y5), some (.int y6), some (.int x4), some (.int z8)] dM_seekAdapters_36 (Nat.le_of_ble_eq_true rfl) (Or.inr (c1i rfl)) rfl ?_
      refine ax_iinc (i := 8) (z8 + (1 : Int32)) [some (va_rf (some y0)), some (.int y1), some (.int y2), some (.int y3), some (.int y4), some (.int y5), some (.int y6), some (.int x4), some (.int (z8 + (1 : Int32)))] dM_seekAdapters_38 rfl (iic k32_1) (Or.inr (c1i rfl)) rfl ?_
      refine ax_goto 21 dM_seekAdapters_41 (by decide) ?_
      exact ih x4 (z8 + (1 : Int32)) hf
    · refine ax_icmp_geT 44 dM_seekAdapters_28 (by decide) hc ?_
      refine ax_mask [true, true, true, true, true, true, true, true, false] rfl [some (va_rf (some y0)), some (.int y1), some (.int y2), some (.int y3), some (.int y4), some (.int y5), some (.int y6), some (.int z7), none] rfl ?_
      exact hk z7 hf
theorem w_M_seekAdapters_L47 {l : Launch} {E : EN} {R : Room} {B : (Nat × Nat) × (Nat × Nat)} {Qf : QF} {ρ : Type} {res : ρ} (hR1 : 5 ≤ R.frames) (hR2 : 320 ≤ R.locals) {y0 : Nat} {y1 : Int32} {y2 : Int32} {y3 : Int32} {y4 : Int32} {y5 : Int32} {y7 : Int32} {k : Int32 → AH → Option (ρ)} (hk : ∀ (z6 : Int32) (h : AH), k z6 h = some res → AW l E mi_M_seekAdapters R B Qf 110 [some (va_rf (some y0)), none, none, none, none, none, some (.int z6), none, none] [] h) : ∀ (n : Nat) (z6 : Int32) (z8 : Int32) (h : AH), f_M_seekAdapters_L47 y0 y1 y2 y3 y4 y5 y7 k n z6 z8 h = some res → AW l E mi_M_seekAdapters R B Qf 47 [some (va_rf (some y0)), some (.int y1), some (.int y2), some (.int y3), some (.int y4), some (.int y5), some (.int z6), some (.int y7), some (.int z8)] [] h := by
  intro n
  induction n with
  | zero => intro z6 z8 h hf; cases hf
  | succ n ih =>
    intro z6 z8 h hf
    rw [f_M_seekAdapters_L47] at hf
    refine ax_iload (i := 8) dM_seekAdapters_47 rfl ?_
    refine ax_iload (i := 7) dM_seekAdapters_49 rfl ?_
    replace hf := ite_c hf
    rcases hf with ⟨hc, hf⟩ | ⟨hc, hf⟩
    · refine ax_icmp_geF 110 dM_seekAdapters_51 (by decide) hc ?_
      refine ax_aload_n (i := 0) (some y0) dM_seekAdapters_54 rfl rfl ?_
      refine ax_iload (i := 5) dM_seekAdapters_55 rfl ?_
      refine ax_iload (i := 8) dM_seekAdapters_57 rfl ?_
      refine ax_iload (i := 7) dM_seekAdapters_59 rfl ?_
      replace hf := bd2_s hf
      obtain ⟨x6, h7, e_x6, hf⟩ := hf
      obtain ⟨k_e_x6, e_x6⟩ := cv_s e_x6
      refine ax_callV (As := [.int y5, .int z8, .int y7]) (rest := []) (c_M_lay e_x6) ml_1389 cm_M_lay rfl k_e_x6 (Nat.le_trans (Nat.le_of_ble_eq_true rfl) hR1) (Nat.le_trans (Nat.le_of_ble_eq_true rfl) hR2) rfl rfl (Nat.le_of_ble_eq_true rfl) dM_seekAdapters_61 ?_
      replace hf := ite_c hf
      rcases hf with ⟨hc, hf⟩ | ⟨hc, hf⟩
      · refine ax_if_eqT 104 dM_seekAdapters_64 (by decide) hc ?_
        refine ax_iinc (i := 8) (z8 + (1 : Int32)) [some (va_rf (some y0)), some (.int y1), some (.int y2), some (.int y3), some (.int y4), some (.int y5), some (.int z6), some (.int y7), some (.int (z8 + (1 : Int32)))] dM_seekAdapters_104 rfl (iic k32_1) (Or.inr (c1i rfl)) rfl ?_
        refine ax_goto 47 dM_seekAdapters_107 (by decide) ?_
        exact ih z6 (z8 + (1 : Int32)) h7 hf
      · refine ax_if_eqF 104 dM_seekAdapters_64 (by decide) hc ?_
        refine ax_aload_n (i := 0) (some y0) dM_seekAdapters_67 rfl rfl ?_
        refine ax_iload_n (i := 1) dM_seekAdapters_68 rfl rfl ?_
        refine ax_iload_n (i := 2) dM_seekAdapters_69 rfl rfl ?_
        refine ax_iconst (0 : Int32) dM_seekAdapters_70 k32_0 ?_
        replace hf := bd2_s hf
        obtain ⟨x8, h9, e_x8, hf⟩ := hf
        obtain ⟨k_e_x8, e_x8⟩ := cv_s e_x8
        refine ax_callV (As := [.int y1, .int y2, .int (0 : Int32)]) (rest := []) (c_M_walk e_x8) ml_1289 cm_M_walk rfl k_e_x8 (Nat.le_trans (Nat.le_of_ble_eq_true rfl) hR1) (Nat.le_trans (Nat.le_of_ble_eq_true rfl) hR2) rfl rfl (Nat.le_of_ble_eq_true rfl) dM_seekAdapters_71 ?_
        replace hf := ite_c hf
        rcases hf with ⟨hc, hf⟩ | ⟨hc, hf⟩
        · refine ax_if_neF 104 dM_seekAdapters_74 (by decide) hc ?_
          refine ax_aload_n (i := 0) (some y0) dM_seekAdapters_77 rfl rfl ?_
          refine ax_iload (i := 6) dM_seekAdapters_78 rfl ?_
          refine ax_iload_n (i := 3) dM_seekAdapters_80 rfl rfl ?_
          replace hf := bd1_s hf
          obtain ⟨x14, hT, hf⟩ := hf
          have K : AW l E mi_M_seekAdapters R B Qf 98 [some (va_rf (some y0)), some (.int y1), some (.int y2), some (.int y3), some (.int y4), some (.int y5), some (.int z6), some (.int y7), some (.int z8)] [.int x14, va_rf (some y0)] h9 := by
            clear hT
            replace hf := bd1_s hf
            obtain ⟨h15, e_h15, hf⟩ := hf
            refine ax_putI fw_1063 rfl rfl dM_seekAdapters_98 e_h15 ?_
            refine ax_iinc (i := 6) (z6 + (1 : Int32)) [some (va_rf (some y0)), some (.int y1), some (.int y2), some (.int y3), some (.int y4), some (.int y5), some (.int (z6 + (1 : Int32))), some (.int y7), some (.int z8)] dM_seekAdapters_101 rfl (iic k32_1) (Or.inr (c1i rfl)) rfl ?_
            refine ax_iinc (i := 8) (z8 + (1 : Int32)) [some (va_rf (some y0)), some (.int y1), some (.int y2), some (.int y3), some (.int y4), some (.int y5), some (.int (z6 + (1 : Int32))), some (.int y7), some (.int (z8 + (1 : Int32)))] dM_seekAdapters_104 rfl (iic k32_1) (Or.inr (c1i rfl)) rfl ?_
            refine ax_goto 47 dM_seekAdapters_107 (by decide) ?_
            exact ih (z6 + (1 : Int32)) (z8 + (1 : Int32)) h15 hf
          replace hf := hT
          clear hT
          replace hf := ite_c hf
          rcases hf with ⟨hc, hf⟩ | ⟨hc, hf⟩
          · refine ax_icmp_neF 94 dM_seekAdapters_81 (by decide) hc ?_
            refine ax_aload_n (i := 0) (some y0) dM_seekAdapters_84 rfl rfl ?_
            replace hf := bd1_s hf
            obtain ⟨r11, e_r11, hf⟩ := hf
            refine ax_getR fl_1056 rfl dM_seekAdapters_85 e_r11 ?_
            refine ax_iload (i := 4) dM_seekAdapters_88 rfl ?_
            replace hf := bd1_s hf
            obtain ⟨a12, e_d, hf⟩ := hf
            subst e_d
            replace hf := bd1_s hf
            obtain ⟨x13, e_x13, hf⟩ := hf
            refine ax_iald dM_seekAdapters_90 e_x13 ?_
            refine ax_goto 98 dM_seekAdapters_91 (by decide) ?_
            cases hf
            exact K
          · refine ax_icmp_neT 94 dM_seekAdapters_81 (by decide) hc ?_
            refine ax_aload_n (i := 0) (some y0) dM_seekAdapters_94 rfl rfl ?_
            replace hf := bd1_s hf
            obtain ⟨x10, e_x10, hf⟩ := hf
            refine ax_getI fl_1063 rfl dM_seekAdapters_95 e_x10 ?_
            cases hf
            exact K
        · refine ax_if_neT 104 dM_seekAdapters_74 (by decide) hc ?_
          refine ax_iinc (i := 8) (z8 + (1 : Int32)) [some (va_rf (some y0)), some (.int y1), some (.int y2), some (.int y3), some (.int y4), some (.int y5), some (.int z6), some (.int y7), some (.int (z8 + (1 : Int32)))] dM_seekAdapters_104 rfl (iic k32_1) (Or.inr (c1i rfl)) rfl ?_
          refine ax_goto 47 dM_seekAdapters_107 (by decide) ?_
          exact ih z6 (z8 + (1 : Int32)) h9 hf
    · refine ax_icmp_geT 110 dM_seekAdapters_51 (by decide) hc ?_
      refine ax_mask [true, false, false, false, false, false, true, false, false] rfl [some (va_rf (some y0)), none, none, none, none, none, some (.int z6), none, none] rfl ?_
      exact hk z6 h hf
theorem v_M_seekAdapters {l : Launch} {E : EN} {R : Room} {B : (Nat × Nat) × (Nat × Nat)} {Qf : QF} {h0 : AH} {o : Nat} {p1 : Int32} {p2 : Int32} {p3 : Int32} {p4 : Int32} {r : Int32} {hF : AH} (hR1 : 5 ≤ R.frames) (hR2 : 320 ≤ R.locals) (Hr : ∀ (pc : Nat) (L : List (Option Value)), decode mi_M_seekAdapters.2.1 pc = .ok (.ireturn, 1) → AW l E mi_M_seekAdapters R B Qf pc L [.int r] hF) (hf : f_M_seekAdapters h0 o p1 p2 p3 p4 = some (r, hF)) : AW l E mi_M_seekAdapters R B Qf 0 [some (va_rf (some o)), some (.int p1), some (.int p2), some (.int p3), some (.int p4), none, none, none, none] [] h0 := by
  unfold f_M_seekAdapters at hf
  refine ax_aload_n (i := 0) (some o) dM_seekAdapters_0 rfl rfl ?_
  refine ax_iload_n (i := 1) dM_seekAdapters_1 rfl rfl ?_
  replace hf := bd1_s hf
  obtain ⟨x1, e_x1, hf⟩ := hf
  obtain ⟨k_e_x1, e_x1⟩ := cv_s e_x1
  refine ax_callV (As := [.int p1]) (rest := []) (c_M_messagesOf e_x1) ml_1378 cm_M_messagesOf rfl k_e_x1 (Nat.le_trans (Nat.le_of_ble_eq_true rfl) hR1) (Nat.le_trans (Nat.le_of_ble_eq_true rfl) hR2) rfl rfl (Nat.le_of_ble_eq_true rfl) dM_seekAdapters_2 ?_
  refine ax_istore (i := 5) [some (va_rf (some o)), some (.int p1), some (.int p2), some (.int p3), some (.int p4), some (.int x1), none, none, none] dM_seekAdapters_5 (Nat.le_of_ble_eq_true rfl) (Or.inr (c1i rfl)) rfl ?_
  refine ax_iconst (0 : Int32) dM_seekAdapters_7 k32_0 ?_
  refine ax_istore (i := 6) [some (va_rf (some o)), some (.int p1), some (.int p2), some (.int p3), some (.int p4), some (.int x1), some (.int (0 : Int32)), none, none] dM_seekAdapters_8 (Nat.le_of_ble_eq_true rfl) (Or.inr (c1i rfl)) rfl ?_
  refine ax_aload_n (i := 0) (some o) dM_seekAdapters_10 rfl rfl ?_
  refine ax_iconst (-1 : Int32) dM_seekAdapters_11 k32_m1 ?_
  replace hf := bd1_s hf
  obtain ⟨h2, e_h2, hf⟩ := hf
  refine ax_putI fw_1063 rfl rfl dM_seekAdapters_12 e_h2 ?_
  refine ax_iconst (1 : Int32) dM_seekAdapters_15 k32_1 ?_
  refine ax_istore (i := 7) [some (va_rf (some o)), some (.int p1), some (.int p2), some (.int p3), some (.int p4), some (.int x1), some (.int (0 : Int32)), some (.int (1 : Int32)), none] dM_seekAdapters_16 (Nat.le_of_ble_eq_true rfl) (Or.inr (c1i rfl)) rfl ?_
  refine ax_iconst (0 : Int32) dM_seekAdapters_18 k32_0 ?_
  refine ax_istore (i := 8) [some (va_rf (some o)), some (.int p1), some (.int p2), some (.int p3), some (.int p4), some (.int x1), some (.int (0 : Int32)), some (.int (1 : Int32)), some (.int (0 : Int32))] dM_seekAdapters_19 (Nat.le_of_ble_eq_true rfl) (Or.inr (c1i rfl)) rfl ?_
  refine w_M_seekAdapters_L21 hR1 hR2 (fun x5 hf => ?_) FU (1 : Int32) (0 : Int32) hf
  refine ax_iconst (0 : Int32) dM_seekAdapters_44 k32_0 ?_
  refine ax_istore (i := 8) [some (va_rf (some o)), some (.int p1), some (.int p2), some (.int p3), some (.int p4), some (.int x1), some (.int (0 : Int32)), some (.int x5), some (.int (0 : Int32))] dM_seekAdapters_45 (Nat.le_of_ble_eq_true rfl) (Or.inr (c1i rfl)) rfl ?_
  refine w_M_seekAdapters_L47 hR1 hR2 (fun x16 h17 hf => ?_) FU (0 : Int32) (0 : Int32) h2 hf
  refine ax_aload_n (i := 0) (some o) dM_seekAdapters_110 rfl rfl ?_
  replace hf := bd1_s hf
  obtain ⟨h18, e_h18, hf⟩ := hf
  obtain ⟨k_e_h18, e_h18⟩ := cv_s e_h18
  refine ax_callV (As := []) (rest := []) (c_M_same e_h18) ml_1285 cm_M_same rfl k_e_h18 (Nat.le_trans (Nat.le_of_ble_eq_true rfl) hR1) (Nat.le_trans (Nat.le_of_ble_eq_true rfl) hR2) rfl rfl (Nat.le_of_ble_eq_true rfl) dM_seekAdapters_111 ?_
  refine ax_iload (i := 6) dM_seekAdapters_114 rfl ?_
  cases hf
  exact Hr _ _ dM_seekAdapters_116
theorem c_M_seekAdapters {l : Launch} {E : EN} {h0 : AH} {o : Nat} {p1 : Int32} {p2 : Int32} {p3 : Int32} {p4 : Int32} {r : Int32} {hF : AH} (hf : f_M_seekAdapters h0 o p1 p2 p3 p4 = some (r, hF)) : AM l E 5 mi_M_seekAdapters [va_rf (some o), .int p1, .int p2, .int p3, .int p4] h0 (some (.int r)) hF :=
  am_of2 [(va_rf (some o), false), (.int p1, false), (.int p2, false), (.int p3, false), (.int p4, false)] 4 ⟨cat_rf _, rfl, rfl, rfl, rfl, trivial⟩ rfl rfl (v_M_seekAdapters (Nat.le_refl _) (Nat.le_refl _) (fun pc L hd => ax_iret rfl hd rfl) hf)
theorem v_M_adapters {l : Launch} {E : EN} {R : Room} {B : (Nat × Nat) × (Nat × Nat)} {Qf : QF} {h0 : AH} {o : Nat} {p1 : Int32} {p2 : Int32} {r : Int32} {hF : AH} (hR1 : 6 ≤ R.frames) (hR2 : 384 ≤ R.locals) (Hr : ∀ (pc : Nat) (L : List (Option Value)), decode mi_M_adapters.2.1 pc = .ok (.ireturn, 1) → AW l E mi_M_adapters R B Qf pc L [.int r] hF) (hf : f_M_adapters h0 o p1 p2 = some (r, hF)) : AW l E mi_M_adapters R B Qf 0 [some (va_rf (some o)), some (.int p1), some (.int p2), none] [] h0 := by
  unfold f_M_adapters at hf
  refine ax_aload_n (i := 0) (some o) dM_adapters_0 rfl rfl ?_
  refine ax_iload_n (i := 1) dM_adapters_1 rfl rfl ?_
  refine ax_iload_n (i := 2) dM_adapters_2 rfl rfl ?_
  replace hf := bd1_s hf
  obtain ⟨x1, e_x1, hf⟩ := hf
  obtain ⟨k_e_x1, e_x1⟩ := cv_s e_x1
  refine ax_callV (As := [.int p1, .int p2]) (rest := []) (c_M_barred e_x1) ml_1374 cm_M_barred rfl k_e_x1 (Nat.le_trans (Nat.le_of_ble_eq_true rfl) hR1) (Nat.le_trans (Nat.le_of_ble_eq_true rfl) hR2) rfl rfl (Nat.le_of_ble_eq_true rfl) dM_adapters_3 ?_
  refine ax_istore_n (i := 3) [some (va_rf (some o)), some (.int p1), some (.int p2), some (.int x1)] dM_adapters_6 rfl (Nat.le_of_ble_eq_true rfl) (Or.inr (c1i rfl)) rfl ?_
  refine ax_iload_n (i := 3) dM_adapters_7 rfl rfl ?_
  replace hf := ite_c hf
  rcases hf with ⟨hc, hf⟩ | ⟨hc, hf⟩
  · refine ax_if_eqT 13 dM_adapters_8 (by decide) hc ?_
    refine ax_aload_n (i := 0) (some o) dM_adapters_13 rfl rfl ?_
    refine ax_dup dM_adapters_14 rfl ?_
    replace hf := bd1_s hf
    obtain ⟨x2, e_x2, hf⟩ := hf
    refine ax_getI fl_1020 rfl dM_adapters_15 e_x2 ?_
    refine ax_iconst (1 : Int32) dM_adapters_18 k32_1 ?_
    refine ax_iadd dM_adapters_19 ?_
    replace hf := bd1_s hf
    obtain ⟨h3, e_h3, hf⟩ := hf
    refine ax_putI fw_1020 rfl rfl dM_adapters_20 e_h3 ?_
    refine ax_aload_n (i := 0) (some o) dM_adapters_23 rfl rfl ?_
    refine ax_iload_n (i := 1) dM_adapters_24 rfl rfl ?_
    refine ax_iload_n (i := 2) dM_adapters_25 rfl rfl ?_
    refine ax_iconst (-1 : Int32) dM_adapters_26 k32_m1 ?_
    refine ax_iconst (0 : Int32) dM_adapters_27 k32_0 ?_
    replace hf := bd2_s hf
    obtain ⟨x4, h5, e_x4, hf⟩ := hf
    obtain ⟨k_e_x4, e_x4⟩ := cv_s e_x4
    refine ax_callV (As := [.int p1, .int p2, .int (-1 : Int32), .int (0 : Int32)]) (rest := []) (c_M_seekAdapters e_x4) ml_1385 cm_M_seekAdapters rfl k_e_x4 (Nat.le_trans (Nat.le_of_ble_eq_true rfl) hR1) (Nat.le_trans (Nat.le_of_ble_eq_true rfl) hR2) rfl rfl (Nat.le_of_ble_eq_true rfl) dM_adapters_28 ?_
    cases hf
    exact Hr _ _ dM_adapters_31
  · refine ax_if_eqF 13 dM_adapters_8 (by decide) hc ?_
    refine ax_iload_n (i := 3) dM_adapters_11 rfl rfl ?_
    cases hf
    exact Hr _ _ dM_adapters_12
theorem c_M_adapters {l : Launch} {E : EN} {h0 : AH} {o : Nat} {p1 : Int32} {p2 : Int32} {r : Int32} {hF : AH} (hf : f_M_adapters h0 o p1 p2 = some (r, hF)) : AM l E 6 mi_M_adapters [va_rf (some o), .int p1, .int p2] h0 (some (.int r)) hF :=
  am_of2 [(va_rf (some o), false), (.int p1, false), (.int p2, false)] 1 ⟨cat_rf _, rfl, rfl, trivial⟩ rfl rfl (v_M_adapters (Nat.le_refl _) (Nat.le_refl _) (fun pc L hd => ax_iret rfl hd rfl) hf)
theorem v_M_adapter {l : Launch} {E : EN} {R : Room} {B : (Nat × Nat) × (Nat × Nat)} {Qf : QF} {h0 : AH} {o : Nat} {p1 : Int32} {p2 : Int32} {p3 : Int32} {p4 : Int32} {r : Int32} {hF : AH} (hR1 : 6 ≤ R.frames) (hR2 : 384 ≤ R.locals) (Hr : ∀ (pc : Nat) (L : List (Option Value)), decode mi_M_adapter.2.1 pc = .ok (.ireturn, 1) → AW l E mi_M_adapter R B Qf pc L [.int r] hF) (hf : f_M_adapter h0 o p1 p2 p3 p4 = some (r, hF)) : AW l E mi_M_adapter R B Qf 0 [some (va_rf (some o)), some (.int p1), some (.int p2), some (.int p3), some (.int p4), none] [] h0 := by
  unfold f_M_adapter at hf
  refine ax_aload_n (i := 0) (some o) dM_adapter_0 rfl rfl ?_
  refine ax_iload_n (i := 1) dM_adapter_1 rfl rfl ?_
  replace hf := bd1_s hf
  obtain ⟨x1, e_x1, hf⟩ := hf
  obtain ⟨k_e_x1, e_x1⟩ := cv_s e_x1
  refine ax_callV (As := [.int p1]) (rest := []) (c_M_isTalk e_x1) ml_1253 cm_M_isTalk rfl k_e_x1 (Nat.le_trans (Nat.le_of_ble_eq_true rfl) hR1) (Nat.le_trans (Nat.le_of_ble_eq_true rfl) hR2) rfl rfl (Nat.le_of_ble_eq_true rfl) dM_adapter_2 ?_
  replace hf := ite_c hf
  rcases hf with ⟨hc, hf⟩ | ⟨hc, hf⟩
  · refine ax_if_eqT 16 dM_adapter_5 (by decide) hc ?_
    refine ax_bipush (-101 : Int32) dM_adapter_16 k8_m101 ?_
    cases hf
    exact Hr _ _ dM_adapter_18
  · refine ax_if_eqF 16 dM_adapter_5 (by decide) hc ?_
    refine ax_aload_n (i := 0) (some o) dM_adapter_8 rfl rfl ?_
    refine ax_iload_n (i := 2) dM_adapter_9 rfl rfl ?_
    replace hf := bd1_s hf
    obtain ⟨x2, e_x2, hf⟩ := hf
    obtain ⟨k_e_x2, e_x2⟩ := cv_s e_x2
    refine ax_callV (As := [.int p2]) (rest := []) (c_M_isTalk e_x2) ml_1253 cm_M_isTalk rfl k_e_x2 (Nat.le_trans (Nat.le_of_ble_eq_true rfl) hR1) (Nat.le_trans (Nat.le_of_ble_eq_true rfl) hR2) rfl rfl (Nat.le_of_ble_eq_true rfl) dM_adapter_10 ?_
    replace hf := ite_c hf
    rcases hf with ⟨hc, hf⟩ | ⟨hc, hf⟩
    · refine ax_if_neF 19 dM_adapter_13 (by decide) hc ?_
      refine ax_bipush (-101 : Int32) dM_adapter_16 k8_m101 ?_
      cases hf
      exact Hr _ _ dM_adapter_18
    · refine ax_if_neT 19 dM_adapter_13 (by decide) hc ?_
      refine ax_iload (i := 4) dM_adapter_19 rfl ?_
      refine ax_iconst (0 : Int32) dM_adapter_21 k32_0 ?_
      refine ax_bipush (7 : Int32) dM_adapter_22 k8_7 ?_
      replace hf := bd1_s hf
      obtain ⟨x3, e_x3, hf⟩ := hf
      refine ax_callS (As := [.int p4, .int (0 : Int32), .int (7 : Int32)]) (rest := []) (c_M_in e_x3) ml_1215 cm_M_in (Nat.le_trans (Nat.le_of_ble_eq_true rfl) hR1) (Nat.le_trans (Nat.le_of_ble_eq_true rfl) hR2) rfl rfl (Nat.le_of_ble_eq_true rfl) dM_adapter_24 ?_
      replace hf := bd1_s hf
      obtain ⟨x5, hT, hf⟩ := hf
      have K : AW l E mi_M_adapter R B Qf 41 [some (va_rf (some o)), some (.int p1), some (.int p2), some (.int p3), some (.int p4), none] [.int x5] h0 := by
        clear hT
        refine ax_istore (i := 5) [some (va_rf (some o)), some (.int p1), some (.int p2), some (.int p3), some (.int p4), some (.int x5)] dM_adapter_41 (Nat.le_of_ble_eq_true rfl) (Or.inr (c1i rfl)) rfl ?_
        refine ax_iload (i := 5) dM_adapter_43 rfl ?_
        replace hf := ite_c hf
        rcases hf with ⟨hc, hf⟩ | ⟨hc, hf⟩
        · refine ax_if_eqT 51 dM_adapter_45 (by decide) hc ?_
          refine ax_aload_n (i := 0) (some o) dM_adapter_51 rfl rfl ?_
          refine ax_dup dM_adapter_52 rfl ?_
          replace hf := bd1_s hf
          obtain ⟨x6, e_x6, hf⟩ := hf
          refine ax_getI fl_1020 rfl dM_adapter_53 e_x6 ?_
          refine ax_iconst (1 : Int32) dM_adapter_56 k32_1 ?_
          refine ax_iadd dM_adapter_57 ?_
          replace hf := bd1_s hf
          obtain ⟨h7, e_h7, hf⟩ := hf
          refine ax_putI fw_1020 rfl rfl dM_adapter_58 e_h7 ?_
          refine ax_aload_n (i := 0) (some o) dM_adapter_61 rfl rfl ?_
          refine ax_iload_n (i := 1) dM_adapter_62 rfl rfl ?_
          refine ax_iload_n (i := 2) dM_adapter_63 rfl rfl ?_
          refine ax_iload_n (i := 3) dM_adapter_64 rfl rfl ?_
          refine ax_iload (i := 4) dM_adapter_65 rfl ?_
          replace hf := bd2_s hf
          obtain ⟨x8, h9, e_x8, hf⟩ := hf
          obtain ⟨k_e_x8, e_x8⟩ := cv_s e_x8
          refine ax_callV (As := [.int p1, .int p2, .int p3, .int p4]) (rest := []) (c_M_seekAdapters e_x8) ml_1385 cm_M_seekAdapters rfl k_e_x8 (Nat.le_trans (Nat.le_of_ble_eq_true rfl) hR1) (Nat.le_trans (Nat.le_of_ble_eq_true rfl) hR2) rfl rfl (Nat.le_of_ble_eq_true rfl) dM_adapter_67 ?_
          refine ax_pop dM_adapter_70 rfl ?_
          refine ax_iload_n (i := 3) dM_adapter_71 rfl rfl ?_
          replace hf := ite_c hf
          rcases hf with ⟨hc, hf⟩ | ⟨hc, hf⟩
          · refine ax_if_geF 79 dM_adapter_72 (by decide) hc ?_
            refine ax_iconst (-1 : Int32) dM_adapter_75 k32_m1 ?_
            refine ax_goto 83 dM_adapter_76 (by decide) ?_
            cases hf
            exact Hr _ _ dM_adapter_83
          · refine ax_if_geT 79 dM_adapter_72 (by decide) hc ?_
            refine ax_aload_n (i := 0) (some o) dM_adapter_79 rfl rfl ?_
            replace hf := bd1_s hf
            obtain ⟨x10, e_x10, hf⟩ := hf
            refine ax_getI fl_1063 rfl dM_adapter_80 e_x10 ?_
            cases hf
            exact Hr _ _ dM_adapter_83
        · refine ax_if_eqF 51 dM_adapter_45 (by decide) hc ?_
          refine ax_iload (i := 5) dM_adapter_48 rfl ?_
          cases hf
          exact Hr _ _ dM_adapter_50
      replace hf := hT
      clear hT
      replace hf := ite_c hf
      rcases hf with ⟨hc, hf⟩ | ⟨hc, hf⟩
      · refine ax_if_eqT 39 dM_adapter_27 (by decide) hc ?_
        refine ax_bipush (-102 : Int32) dM_adapter_39 k8_m102 ?_
        cases hf
        exact K
      · refine ax_if_eqF 39 dM_adapter_27 (by decide) hc ?_
        refine ax_aload_n (i := 0) (some o) dM_adapter_30 rfl rfl ?_
        refine ax_iload_n (i := 1) dM_adapter_31 rfl rfl ?_
        refine ax_iload_n (i := 2) dM_adapter_32 rfl rfl ?_
        replace hf := bd1_s hf
        obtain ⟨x4, e_x4, hf⟩ := hf
        obtain ⟨k_e_x4, e_x4⟩ := cv_s e_x4
        refine ax_callV (As := [.int p1, .int p2]) (rest := []) (c_M_barred e_x4) ml_1374 cm_M_barred rfl k_e_x4 (Nat.le_trans (Nat.le_of_ble_eq_true rfl) hR1) (Nat.le_trans (Nat.le_of_ble_eq_true rfl) hR2) rfl rfl (Nat.le_of_ble_eq_true rfl) dM_adapter_33 ?_
        refine ax_goto 41 dM_adapter_36 (by decide) ?_
        cases hf
        exact K
theorem c_M_adapter {l : Launch} {E : EN} {h0 : AH} {o : Nat} {p1 : Int32} {p2 : Int32} {p3 : Int32} {p4 : Int32} {r : Int32} {hF : AH} (hf : f_M_adapter h0 o p1 p2 p3 p4 = some (r, hF)) : AM l E 6 mi_M_adapter [va_rf (some o), .int p1, .int p2, .int p3, .int p4] h0 (some (.int r)) hF :=
  am_of2 [(va_rf (some o), false), (.int p1, false), (.int p2, false), (.int p3, false), (.int p4, false)] 1 ⟨cat_rf _, rfl, rfl, rfl, rfl, trivial⟩ rfl rfl (v_M_adapter (Nat.le_refl _) (Nat.le_refl _) (fun pc L hd => ax_iret rfl hd rfl) hf)
theorem v_M_isSet {l : Launch} {E : EN} {R : Room} {B : (Nat × Nat) × (Nat × Nat)} {Qf : QF} {h0 : AH} {p1 : Int32} {r : Int32} (hR1 : 2 ≤ R.frames) (hR2 : 128 ≤ R.locals) (Hr : (r = 0 ∨ r = 1) → ∀ (pc : Nat) (L : List (Option Value)), decode mi_M_isSet.2.1 pc = .ok (.ireturn, 1) → AW l E mi_M_isSet R B Qf pc L [.int r] h0) (hf : f_M_isSet h0 p1 = some r) : AW l E mi_M_isSet R B Qf 0 [some (.int p1)] [] h0 := by
  unfold f_M_isSet at hf
  refine ax_iload_n (i := 0) dM_isSet_0 rfl rfl ?_
  refine ax_iconst (0 : Int32) dM_isSet_1 k32_0 ?_
  refine ax_sipush (4095 : Int32) dM_isSet_2 k16_4095 ?_
  replace hf := bd1_s hf
  obtain ⟨x1, e_x1, hf⟩ := hf
  refine ax_callS (As := [.int p1, .int (0 : Int32), .int (4095 : Int32)]) (rest := []) (c_M_in e_x1) ml_1215 cm_M_in (Nat.le_trans (Nat.le_of_ble_eq_true rfl) hR1) (Nat.le_trans (Nat.le_of_ble_eq_true rfl) hR2) rfl rfl (Nat.le_of_ble_eq_true rfl) dM_isSet_5 ?_
  replace hf := ite_s hf
  obtain ⟨e_z, hf⟩ := hf
  cases hf
  exact Hr e_z _ _ dM_isSet_8
theorem c_M_isSet {l : Launch} {E : EN} {h0 : AH} {p1 : Int32} {r : Int32} (hf : f_M_isSet h0 p1 = some r) : AM l E 2 mi_M_isSet [.int p1] h0 (some (.int r)) h0 :=
  am_of2 [(.int p1, false)] 0 ⟨rfl, trivial⟩ rfl rfl (v_M_isSet (Nat.le_refl _) (Nat.le_refl _) (fun hz pc L hd => ax_zret rfl hz hd rfl) hf)
theorem v_M_helper {l : Launch} {E : EN} {R : Room} {B : (Nat × Nat) × (Nat × Nat)} {Qf : QF} {h0 : AH} {o : Nat} {p1 : Int32} {p2 : Int32} {p3 : Int32} {r : Int32} {hF : AH} (hR1 : 3 ≤ R.frames) (hR2 : 192 ≤ R.locals) (Hr : ∀ (pc : Nat) (L : List (Option Value)), decode mi_M_helper.2.1 pc = .ok (.ireturn, 1) → AW l E mi_M_helper R B Qf pc L [.int r] hF) (hf : f_M_helper h0 o p1 p2 p3 = some (r, hF)) : AW l E mi_M_helper R B Qf 0 [some (va_rf (some o)), some (.int p1), some (.int p2), some (.int p3)] [] h0 := by
  unfold f_M_helper at hf
  refine ax_iload_n (i := 1) dM_helper_0 rfl rfl ?_
  replace hf := bd1_s hf
  obtain ⟨x1, e_x1, hf⟩ := hf
  refine ax_callS (As := [.int p1]) (rest := []) (c_M_isSet e_x1) ml_1401 cm_M_isSet (Nat.le_trans (Nat.le_of_ble_eq_true rfl) hR1) (Nat.le_trans (Nat.le_of_ble_eq_true rfl) hR2) rfl rfl (Nat.le_of_ble_eq_true rfl) dM_helper_1 ?_
  replace hf := ite_c hf
  rcases hf with ⟨hc, hf⟩ | ⟨hc, hf⟩
  · refine ax_if_eqT 21 dM_helper_4 (by decide) hc ?_
    refine ax_bipush (-102 : Int32) dM_helper_21 k8_m102 ?_
    cases hf
    exact Hr _ _ dM_helper_23
  · refine ax_if_eqF 21 dM_helper_4 (by decide) hc ?_
    refine ax_iload_n (i := 2) dM_helper_7 rfl rfl ?_
    replace hf := bd1_s hf
    obtain ⟨x2, e_x2, hf⟩ := hf
    refine ax_callS (As := [.int p2]) (rest := []) (c_M_isSet e_x2) ml_1401 cm_M_isSet (Nat.le_trans (Nat.le_of_ble_eq_true rfl) hR1) (Nat.le_trans (Nat.le_of_ble_eq_true rfl) hR2) rfl rfl (Nat.le_of_ble_eq_true rfl) dM_helper_8 ?_
    replace hf := ite_c hf
    rcases hf with ⟨hc, hf⟩ | ⟨hc, hf⟩
    · refine ax_if_eqT 21 dM_helper_11 (by decide) hc ?_
      refine ax_bipush (-102 : Int32) dM_helper_21 k8_m102 ?_
      cases hf
      exact Hr _ _ dM_helper_23
    · refine ax_if_eqF 21 dM_helper_11 (by decide) hc ?_
      refine ax_iload_n (i := 3) dM_helper_14 rfl rfl ?_
      replace hf := bd1_s hf
      obtain ⟨x3, e_x3, hf⟩ := hf
      refine ax_callS (As := [.int p3]) (rest := []) (c_M_isSet e_x3) ml_1401 cm_M_isSet (Nat.le_trans (Nat.le_of_ble_eq_true rfl) hR1) (Nat.le_trans (Nat.le_of_ble_eq_true rfl) hR2) rfl rfl (Nat.le_of_ble_eq_true rfl) dM_helper_15 ?_
      replace hf := ite_c hf
      rcases hf with ⟨hc, hf⟩ | ⟨hc, hf⟩
      · refine ax_if_neF 24 dM_helper_18 (by decide) hc ?_
        refine ax_bipush (-102 : Int32) dM_helper_21 k8_m102 ?_
        cases hf
        exact Hr _ _ dM_helper_23
      · refine ax_if_neT 24 dM_helper_18 (by decide) hc ?_
        refine ax_aload_n (i := 0) (some o) dM_helper_24 rfl rfl ?_
        replace hf := bd1_s hf
        obtain ⟨x4, e_x4, hf⟩ := hf
        refine ax_getI fl_1022 rfl dM_helper_25 e_x4 ?_
        refine ax_bipush (8 : Int32) dM_helper_28 k8_8 ?_
        replace hf := ite_c hf
        rcases hf with ⟨hc, hf⟩ | ⟨hc, hf⟩
        · refine ax_icmp_neF 36 dM_helper_30 (by decide) hc ?_
          refine ax_bipush (-104 : Int32) dM_helper_33 k8_m104 ?_
          cases hf
          exact Hr _ _ dM_helper_35
        · refine ax_icmp_neT 36 dM_helper_30 (by decide) hc ?_
          refine ax_aload_n (i := 0) (some o) dM_helper_36 rfl rfl ?_
          replace hf := bd1_s hf
          obtain ⟨r5, e_r5, hf⟩ := hf
          refine ax_getR fl_1023 rfl dM_helper_37 e_r5 ?_
          refine ax_aload_n (i := 0) (some o) dM_helper_40 rfl rfl ?_
          replace hf := bd1_s hf
          obtain ⟨x6, e_x6, hf⟩ := hf
          refine ax_getI fl_1022 rfl dM_helper_41 e_x6 ?_
          refine ax_iload_n (i := 1) dM_helper_44 rfl rfl ?_
          replace hf := bd1_s hf
          obtain ⟨a7, e_d, hf⟩ := hf
          subst e_d
          replace hf := bd1_s hf
          obtain ⟨h8, e_h8, hf⟩ := hf
          refine ax_iast dM_helper_45 e_h8 ?_
          refine ax_aload_n (i := 0) (some o) dM_helper_46 rfl rfl ?_
          replace hf := bd1_s hf
          obtain ⟨r9, e_r9, hf⟩ := hf
          refine ax_getR fl_1024 rfl dM_helper_47 e_r9 ?_
          refine ax_aload_n (i := 0) (some o) dM_helper_50 rfl rfl ?_
          replace hf := bd1_s hf
          obtain ⟨x10, e_x10, hf⟩ := hf
          refine ax_getI fl_1022 rfl dM_helper_51 e_x10 ?_
          refine ax_iload_n (i := 2) dM_helper_54 rfl rfl ?_
          replace hf := bd1_s hf
          obtain ⟨a11, e_d, hf⟩ := hf
          subst e_d
          replace hf := bd1_s hf
          obtain ⟨h12, e_h12, hf⟩ := hf
          refine ax_iast dM_helper_55 e_h12 ?_
          refine ax_aload_n (i := 0) (some o) dM_helper_56 rfl rfl ?_
          replace hf := bd1_s hf
          obtain ⟨r13, e_r13, hf⟩ := hf
          refine ax_getR fl_1025 rfl dM_helper_57 e_r13 ?_
          refine ax_aload_n (i := 0) (some o) dM_helper_60 rfl rfl ?_
          replace hf := bd1_s hf
          obtain ⟨x14, e_x14, hf⟩ := hf
          refine ax_getI fl_1022 rfl dM_helper_61 e_x14 ?_
          refine ax_iload_n (i := 3) dM_helper_64 rfl rfl ?_
          replace hf := bd1_s hf
          obtain ⟨a15, e_d, hf⟩ := hf
          subst e_d
          replace hf := bd1_s hf
          obtain ⟨h16, e_h16, hf⟩ := hf
          refine ax_iast dM_helper_65 e_h16 ?_
          refine ax_aload_n (i := 0) (some o) dM_helper_66 rfl rfl ?_
          replace hf := bd1_s hf
          obtain ⟨r17, e_r17, hf⟩ := hf
          refine ax_getR fl_1026 rfl dM_helper_67 e_r17 ?_
          refine ax_iconst (5 : Int32) dM_helper_70 k32_5 ?_
          refine ax_aload_n (i := 0) (some o) dM_helper_71 rfl rfl ?_
          replace hf := bd1_s hf
          obtain ⟨x18, e_x18, hf⟩ := hf
          refine ax_getI fl_1022 rfl dM_helper_72 e_x18 ?_
          refine ax_imul dM_helper_75 ?_
          refine ax_iconst (0 : Int32) dM_helper_76 k32_0 ?_
          replace hf := bd1_s hf
          obtain ⟨a19, e_d, hf⟩ := hf
          subst e_d
          replace hf := bd1_s hf
          obtain ⟨h20, e_h20, hf⟩ := hf
          refine ax_iast dM_helper_77 e_h20 ?_
          refine ax_aload_n (i := 0) (some o) dM_helper_78 rfl rfl ?_
          replace hf := bd1_s hf
          obtain ⟨r21, e_r21, hf⟩ := hf
          refine ax_getR fl_1026 rfl dM_helper_79 e_r21 ?_
          refine ax_iconst (5 : Int32) dM_helper_82 k32_5 ?_
          refine ax_aload_n (i := 0) (some o) dM_helper_83 rfl rfl ?_
          replace hf := bd1_s hf
          obtain ⟨x22, e_x22, hf⟩ := hf
          refine ax_getI fl_1022 rfl dM_helper_84 e_x22 ?_
          refine ax_imul dM_helper_87 ?_
          refine ax_iconst (1 : Int32) dM_helper_88 k32_1 ?_
          refine ax_iadd dM_helper_89 ?_
          refine ax_iconst (0 : Int32) dM_helper_90 k32_0 ?_
          replace hf := bd1_s hf
          obtain ⟨a23, e_d, hf⟩ := hf
          subst e_d
          replace hf := bd1_s hf
          obtain ⟨h24, e_h24, hf⟩ := hf
          refine ax_iast dM_helper_91 e_h24 ?_
          refine ax_aload_n (i := 0) (some o) dM_helper_92 rfl rfl ?_
          replace hf := bd1_s hf
          obtain ⟨r25, e_r25, hf⟩ := hf
          refine ax_getR fl_1026 rfl dM_helper_93 e_r25 ?_
          refine ax_iconst (5 : Int32) dM_helper_96 k32_5 ?_
          refine ax_aload_n (i := 0) (some o) dM_helper_97 rfl rfl ?_
          replace hf := bd1_s hf
          obtain ⟨x26, e_x26, hf⟩ := hf
          refine ax_getI fl_1022 rfl dM_helper_98 e_x26 ?_
          refine ax_imul dM_helper_101 ?_
          refine ax_iconst (2 : Int32) dM_helper_102 k32_2 ?_
          refine ax_iadd dM_helper_103 ?_
          refine ax_iconst (3 : Int32) dM_helper_104 k32_3 ?_
          replace hf := bd1_s hf
          obtain ⟨a27, e_d, hf⟩ := hf
          subst e_d
          replace hf := bd1_s hf
          obtain ⟨h28, e_h28, hf⟩ := hf
          refine ax_iast dM_helper_105 e_h28 ?_
          refine ax_aload_n (i := 0) (some o) dM_helper_106 rfl rfl ?_
          replace hf := bd1_s hf
          obtain ⟨r29, e_r29, hf⟩ := hf
          refine ax_getR fl_1026 rfl dM_helper_107 e_r29 ?_
          refine ax_iconst (5 : Int32) dM_helper_110 k32_5 ?_
          refine ax_aload_n (i := 0) (some o) dM_helper_111 rfl rfl ?_
          replace hf := bd1_s hf
          obtain ⟨x30, e_x30, hf⟩ := hf
          refine ax_getI fl_1022 rfl dM_helper_112 e_x30 ?_
          refine ax_imul dM_helper_115 ?_
          refine ax_iconst (3 : Int32) dM_helper_116 k32_3 ?_
          refine ax_iadd dM_helper_117 ?_
          refine ax_iconst (3 : Int32) dM_helper_118 k32_3 ?_
          replace hf := bd1_s hf
          obtain ⟨a31, e_d, hf⟩ := hf
          subst e_d
          replace hf := bd1_s hf
          obtain ⟨h32, e_h32, hf⟩ := hf
          refine ax_iast dM_helper_119 e_h32 ?_
          refine ax_aload_n (i := 0) (some o) dM_helper_120 rfl rfl ?_
          replace hf := bd1_s hf
          obtain ⟨r33, e_r33, hf⟩ := hf
          refine ax_getR fl_1026 rfl dM_helper_121 e_r33 ?_
          refine ax_iconst (5 : Int32) dM_helper_124 k32_5 ?_
          refine ax_aload_n (i := 0) (some o) dM_helper_125 rfl rfl ?_
          replace hf := bd1_s hf
          obtain ⟨x34, e_x34, hf⟩ := hf
          refine ax_getI fl_1022 rfl dM_helper_126 e_x34 ?_
          refine ax_imul dM_helper_129 ?_
          refine ax_iconst (4 : Int32) dM_helper_130 k32_4 ?_
          refine ax_iadd dM_helper_131 ?_
          refine ax_iconst (-1 : Int32) dM_helper_132 k32_m1 ?_
          replace hf := bd1_s hf
          obtain ⟨a35, e_d, hf⟩ := hf
          subst e_d
          replace hf := bd1_s hf
          obtain ⟨h36, e_h36, hf⟩ := hf
          refine ax_iast dM_helper_133 e_h36 ?_
          refine ax_aload_n (i := 0) (some o) dM_helper_134 rfl rfl ?_
          refine ax_dup dM_helper_135 rfl ?_
          replace hf := bd1_s hf
          obtain ⟨x37, e_x37, hf⟩ := hf
          refine ax_getI fl_1022 rfl dM_helper_136 e_x37 ?_
          refine ax_iconst (1 : Int32) dM_helper_139 k32_1 ?_
          refine ax_iadd dM_helper_140 ?_
          replace hf := bd1_s hf
          obtain ⟨h38, e_h38, hf⟩ := hf
          refine ax_putI fw_1022 rfl rfl dM_helper_141 e_h38 ?_
          refine ax_aload_n (i := 0) (some o) dM_helper_144 rfl rfl ?_
          replace hf := bd1_s hf
          obtain ⟨x39, e_x39, hf⟩ := hf
          refine ax_getI fl_1022 rfl dM_helper_145 e_x39 ?_
          refine ax_iconst (1 : Int32) dM_helper_148 k32_1 ?_
          refine ax_isub dM_helper_149 ?_
          cases hf
          exact Hr _ _ dM_helper_150
theorem c_M_helper {l : Launch} {E : EN} {h0 : AH} {o : Nat} {p1 : Int32} {p2 : Int32} {p3 : Int32} {r : Int32} {hF : AH} (hf : f_M_helper h0 o p1 p2 p3 = some (r, hF)) : AM l E 3 mi_M_helper [va_rf (some o), .int p1, .int p2, .int p3] h0 (some (.int r)) hF :=
  am_of2 [(va_rf (some o), false), (.int p1, false), (.int p2, false), (.int p3, false)] 0 ⟨cat_rf _, rfl, rfl, rfl, trivial⟩ rfl rfl (v_M_helper (Nat.le_refl _) (Nat.le_refl _) (fun pc L hd => ax_iret rfl hd rfl) hf)
theorem v_M_isHelper {l : Launch} {E : EN} {R : Room} {B : (Nat × Nat) × (Nat × Nat)} {Qf : QF} {h0 : AH} {o : Nat} {p1 : Int32} {r : Int32} (hR1 : 2 ≤ R.frames) (hR2 : 128 ≤ R.locals) (Hr : (r = 0 ∨ r = 1) → ∀ (pc : Nat) (L : List (Option Value)), decode mi_M_isHelper.2.1 pc = .ok (.ireturn, 1) → AW l E mi_M_isHelper R B Qf pc L [.int r] h0) (hf : f_M_isHelper h0 o p1 = some r) : AW l E mi_M_isHelper R B Qf 0 [some (va_rf (some o)), some (.int p1)] [] h0 := by
  unfold f_M_isHelper at hf
  refine ax_iload_n (i := 1) dM_isHelper_0 rfl rfl ?_
  refine ax_iconst (0 : Int32) dM_isHelper_1 k32_0 ?_
  refine ax_aload_n (i := 0) (some o) dM_isHelper_2 rfl rfl ?_
  replace hf := bd1_s hf
  obtain ⟨x1, e_x1, hf⟩ := hf
  refine ax_getI fl_1022 rfl dM_isHelper_3 e_x1 ?_
  refine ax_iconst (1 : Int32) dM_isHelper_6 k32_1 ?_
  refine ax_isub dM_isHelper_7 ?_
  replace hf := bd1_s hf
  obtain ⟨x2, e_x2, hf⟩ := hf
  refine ax_callS (As := [.int p1, .int (0 : Int32), .int (x1 - (1 : Int32))]) (rest := []) (c_M_in e_x2) ml_1215 cm_M_in (Nat.le_trans (Nat.le_of_ble_eq_true rfl) hR1) (Nat.le_trans (Nat.le_of_ble_eq_true rfl) hR2) rfl rfl (Nat.le_of_ble_eq_true rfl) dM_isHelper_8 ?_
  replace hf := ite_s hf
  obtain ⟨e_z, hf⟩ := hf
  cases hf
  exact Hr e_z _ _ dM_isHelper_11
theorem c_M_isHelper {l : Launch} {E : EN} {h0 : AH} {o : Nat} {p1 : Int32} {r : Int32} (hf : f_M_isHelper h0 o p1 = some r) : AM l E 2 mi_M_isHelper [va_rf (some o), .int p1] h0 (some (.int r)) h0 :=
  am_of2 [(va_rf (some o), false), (.int p1, false)] 0 ⟨cat_rf _, rfl, trivial⟩ rfl rfl (v_M_isHelper (Nat.le_refl _) (Nat.le_refl _) (fun hz pc L hd => ax_zret rfl hz hd rfl) hf)
theorem v_M_set {l : Launch} {E : EN} {R : Room} {B : (Nat × Nat) × (Nat × Nat)} {Qf : QF} {h0 : AH} {o : Nat} {p1 : Int32} {p2 : Int32} {p3 : Int32} {r : Int32} {hF : AH} (hR1 : 3 ≤ R.frames) (hR2 : 192 ≤ R.locals) (Hr : ∀ (pc : Nat) (L : List (Option Value)), decode mi_M_set.2.1 pc = .ok (.ireturn, 1) → AW l E mi_M_set R B Qf pc L [.int r] hF) (hf : f_M_set h0 o p1 p2 p3 = some (r, hF)) : AW l E mi_M_set R B Qf 0 [some (va_rf (some o)), some (.int p1), some (.int p2), some (.int p3), none, none, none] [] h0 := by
  unfold f_M_set at hf
  refine ax_aload_n (i := 0) (some o) dM_set_0 rfl rfl ?_
  refine ax_iload_n (i := 1) dM_set_1 rfl rfl ?_
  replace hf := bd1_s hf
  obtain ⟨x1, e_x1, hf⟩ := hf
  obtain ⟨k_e_x1, e_x1⟩ := cv_s e_x1
  refine ax_callV (As := [.int p1]) (rest := []) (c_M_isHelper e_x1) ml_1408 cm_M_isHelper rfl k_e_x1 (Nat.le_trans (Nat.le_of_ble_eq_true rfl) hR1) (Nat.le_trans (Nat.le_of_ble_eq_true rfl) hR2) rfl rfl (Nat.le_of_ble_eq_true rfl) dM_set_2 ?_
  replace hf := ite_c hf
  rcases hf with ⟨hc, hf⟩ | ⟨hc, hf⟩
  · refine ax_if_eqT 35 dM_set_5 (by decide) hc ?_
    refine ax_bipush (-101 : Int32) dM_set_35 k8_m101 ?_
    cases hf
    exact Hr _ _ dM_set_37
  · refine ax_if_eqF 35 dM_set_5 (by decide) hc ?_
    refine ax_iload_n (i := 2) dM_set_8 rfl rfl ?_
    refine ax_iconst (0 : Int32) dM_set_9 k32_0 ?_
    refine ax_iconst (4 : Int32) dM_set_10 k32_4 ?_
    replace hf := bd1_s hf
    obtain ⟨x2, e_x2, hf⟩ := hf
    refine ax_callS (As := [.int p2, .int (0 : Int32), .int (4 : Int32)]) (rest := []) (c_M_in e_x2) ml_1215 cm_M_in (Nat.le_trans (Nat.le_of_ble_eq_true rfl) hR1) (Nat.le_trans (Nat.le_of_ble_eq_true rfl) hR2) rfl rfl (Nat.le_of_ble_eq_true rfl) dM_set_11 ?_
    replace hf := ite_c hf
    rcases hf with ⟨hc, hf⟩ | ⟨hc, hf⟩
    · refine ax_if_eqT 35 dM_set_14 (by decide) hc ?_
      refine ax_bipush (-101 : Int32) dM_set_35 k8_m101 ?_
      cases hf
      exact Hr _ _ dM_set_37
    · refine ax_if_eqF 35 dM_set_14 (by decide) hc ?_
      refine ax_iload_n (i := 2) dM_set_17 rfl rfl ?_
      refine ax_iconst (4 : Int32) dM_set_18 k32_4 ?_
      replace hf := ite_c hf
      rcases hf with ⟨hc, hf⟩ | ⟨hc, hf⟩
      · refine ax_icmp_neF 38 dM_set_19 (by decide) hc ?_
        refine ax_iload_n (i := 3) dM_set_22 rfl rfl ?_
        refine ax_iconst (-1 : Int32) dM_set_23 k32_m1 ?_
        replace hf := ite_c hf
        rcases hf with ⟨hc, hf⟩ | ⟨hc, hf⟩
        · refine ax_icmp_eqT 38 dM_set_24 (by decide) hc ?_
          refine ax_iload_n (i := 2) dM_set_38 rfl rfl ?_
          refine ax_iconst (2 : Int32) dM_set_39 k32_2 ?_
          replace hf := bd1_s hf
          obtain ⟨x12, hT, hf⟩ := hf
          have K : AW l E mi_M_set R B Qf 57 [some (va_rf (some o)), some (.int p1), some (.int p2), some (.int p3), none, none, none] [.int x12] h0 := by
            clear hT
            refine ax_istore (i := 4) [some (va_rf (some o)), some (.int p1), some (.int p2), some (.int p3), some (.int x12), none, none] dM_set_57 (Nat.le_of_ble_eq_true rfl) (Or.inr (c1i rfl)) rfl ?_
            refine ax_iload_n (i := 2) dM_set_59 rfl rfl ?_
            replace hf := bd1_s hf
            obtain ⟨x13, hT, hf⟩ := hf
            have K : AW l E mi_M_set R B Qf 89 [some (va_rf (some o)), some (.int p1), some (.int p2), some (.int p3), some (.int x12), none, none] [.int x13] h0 := by
              clear hT
              refine ax_istore (i := 5) [some (va_rf (some o)), some (.int p1), some (.int p2), some (.int p3), some (.int x12), some (.int x13), none] dM_set_89 (Nat.le_of_ble_eq_true rfl) (Or.inr (c1i rfl)) rfl ?_
              refine ax_iload_n (i := 3) dM_set_91 rfl rfl ?_
              refine ax_iload (i := 4) dM_set_92 rfl ?_
              refine ax_iload (i := 5) dM_set_94 rfl ?_
              replace hf := bd1_s hf
              obtain ⟨x14, e_x14, hf⟩ := hf
              refine ax_callS (As := [.int p3, .int x12, .int x13]) (rest := []) (c_M_in e_x14) ml_1215 cm_M_in (Nat.le_trans (Nat.le_of_ble_eq_true rfl) hR1) (Nat.le_trans (Nat.le_of_ble_eq_true rfl) hR2) rfl rfl (Nat.le_of_ble_eq_true rfl) dM_set_96 ?_
              replace hf := ite_c hf
              rcases hf with ⟨hc, hf⟩ | ⟨hc, hf⟩
              · refine ax_if_neF 105 dM_set_99 (by decide) hc ?_
                refine ax_bipush (-102 : Int32) dM_set_102 k8_m102 ?_
                cases hf
                exact Hr _ _ dM_set_104
              · refine ax_if_neT 105 dM_set_99 (by decide) hc ?_
                refine ax_aload_n (i := 0) (some o) dM_set_105 rfl rfl ?_
                replace hf := bd1_s hf
                obtain ⟨r15, e_r15, hf⟩ := hf
                refine ax_getR fl_1026 rfl dM_set_106 e_r15 ?_
                refine ax_iconst (5 : Int32) dM_set_109 k32_5 ?_
                refine ax_iload_n (i := 1) dM_set_110 rfl rfl ?_
                refine ax_imul dM_set_111 ?_
                refine ax_iload_n (i := 2) dM_set_112 rfl rfl ?_
                refine ax_iadd dM_set_113 ?_
                replace hf := bd1_s hf
                obtain ⟨a16, e_d, hf⟩ := hf
                subst e_d
                replace hf := bd1_s hf
                obtain ⟨x17, e_x17, hf⟩ := hf
                refine ax_iald dM_set_114 e_x17 ?_
                refine ax_istore (i := 6) [some (va_rf (some o)), some (.int p1), some (.int p2), some (.int p3), some (.int x12), some (.int x13), some (.int x17)] dM_set_115 (Nat.le_of_ble_eq_true rfl) (Or.inr (c1i rfl)) rfl ?_
                refine ax_aload_n (i := 0) (some o) dM_set_117 rfl rfl ?_
                replace hf := bd1_s hf
                obtain ⟨r18, e_r18, hf⟩ := hf
                refine ax_getR fl_1026 rfl dM_set_118 e_r18 ?_
                refine ax_iconst (5 : Int32) dM_set_121 k32_5 ?_
                refine ax_iload_n (i := 1) dM_set_122 rfl rfl ?_
                refine ax_imul dM_set_123 ?_
                refine ax_iload_n (i := 2) dM_set_124 rfl rfl ?_
                refine ax_iadd dM_set_125 ?_
                refine ax_iload_n (i := 3) dM_set_126 rfl rfl ?_
                replace hf := bd1_s hf
                obtain ⟨a19, e_d, hf⟩ := hf
                subst e_d
                replace hf := bd1_s hf
                obtain ⟨h20, e_h20, hf⟩ := hf
                refine ax_iast dM_set_127 e_h20 ?_
                refine ax_iload (i := 6) dM_set_128 rfl ?_
                cases hf
                exact Hr _ _ dM_set_130
            replace hf := hT
            clear hT
            replace hf := ite_c hf
            rcases hf with ⟨hc, hf⟩ | ⟨hc, hf⟩
            · refine ax_if_neF 68 dM_set_60 (by decide) hc ?_
              refine ax_bipush (50 : Int32) dM_set_63 k8_50 ?_
              refine ax_goto 89 dM_set_65 (by decide) ?_
              cases hf
              exact K
            · refine ax_if_neT 68 dM_set_60 (by decide) hc ?_
              refine ax_iload_n (i := 2) dM_set_68 rfl rfl ?_
              refine ax_iconst (1 : Int32) dM_set_69 k32_1 ?_
              replace hf := ite_c hf
              rcases hf with ⟨hc, hf⟩ | ⟨hc, hf⟩
              · refine ax_icmp_neF 78 dM_set_70 (by decide) hc ?_
                refine ax_bipush (9 : Int32) dM_set_73 k8_9 ?_
                refine ax_goto 89 dM_set_75 (by decide) ?_
                cases hf
                exact K
              · refine ax_icmp_neT 78 dM_set_70 (by decide) hc ?_
                refine ax_iload_n (i := 2) dM_set_78 rfl rfl ?_
                refine ax_iconst (4 : Int32) dM_set_79 k32_4 ?_
                replace hf := ite_c hf
                rcases hf with ⟨hc, hf⟩ | ⟨hc, hf⟩
                · refine ax_icmp_neF 88 dM_set_80 (by decide) hc ?_
                  refine ax_bipush (8 : Int32) dM_set_83 k8_8 ?_
                  refine ax_goto 89 dM_set_85 (by decide) ?_
                  cases hf
                  exact K
                · refine ax_icmp_neT 88 dM_set_80 (by decide) hc ?_
                  refine ax_iconst (3 : Int32) dM_set_88 k32_3 ?_
                  cases hf
                  exact K
          replace hf := hT
          clear hT
          replace hf := ite_c hf
          rcases hf with ⟨hc, hf⟩ | ⟨hc, hf⟩
          · refine ax_icmp_neF 47 dM_set_40 (by decide) hc ?_
            refine ax_iconst (1 : Int32) dM_set_43 k32_1 ?_
            refine ax_goto 57 dM_set_44 (by decide) ?_
            cases hf
            exact K
          · refine ax_icmp_neT 47 dM_set_40 (by decide) hc ?_
            refine ax_iload_n (i := 2) dM_set_47 rfl rfl ?_
            refine ax_iconst (4 : Int32) dM_set_48 k32_4 ?_
            replace hf := ite_c hf
            rcases hf with ⟨hc, hf⟩ | ⟨hc, hf⟩
            · refine ax_icmp_neF 56 dM_set_49 (by decide) hc ?_
              refine ax_iconst (-1 : Int32) dM_set_52 k32_m1 ?_
              refine ax_goto 57 dM_set_53 (by decide) ?_
              cases hf
              exact K
            · refine ax_icmp_neT 56 dM_set_49 (by decide) hc ?_
              refine ax_iconst (0 : Int32) dM_set_56 k32_0 ?_
              cases hf
              exact K
        · refine ax_icmp_eqF 38 dM_set_24 (by decide) hc ?_
          refine ax_aload_n (i := 0) (some o) dM_set_27 rfl rfl ?_
          refine ax_iload_n (i := 3) dM_set_28 rfl rfl ?_
          replace hf := bd1_s hf
          obtain ⟨x21, e_x21, hf⟩ := hf
          obtain ⟨k_e_x21, e_x21⟩ := cv_s e_x21
          refine ax_callV (As := [.int p3]) (rest := []) (c_M_isHelper e_x21) ml_1408 cm_M_isHelper rfl k_e_x21 (Nat.le_trans (Nat.le_of_ble_eq_true rfl) hR1) (Nat.le_trans (Nat.le_of_ble_eq_true rfl) hR2) rfl rfl (Nat.le_of_ble_eq_true rfl) dM_set_29 ?_
          replace hf := ite_c hf
          rcases hf with ⟨hc, hf⟩ | ⟨hc, hf⟩
          · refine ax_if_neF 38 dM_set_32 (by decide) hc ?_
            refine ax_bipush (-101 : Int32) dM_set_35 k8_m101 ?_
            cases hf
            exact Hr _ _ dM_set_37
          · refine ax_if_neT 38 dM_set_32 (by decide) hc ?_
            refine ax_iload_n (i := 2) dM_set_38 rfl rfl ?_
            refine ax_iconst (2 : Int32) dM_set_39 k32_2 ?_
            replace hf := bd1_s hf
            obtain ⟨x22, hT, hf⟩ := hf
            have K : AW l E mi_M_set R B Qf 57 [some (va_rf (some o)), some (.int p1), some (.int p2), some (.int p3), none, none, none] [.int x22] h0 := by
              clear hT
              refine ax_istore (i := 4) [some (va_rf (some o)), some (.int p1), some (.int p2), some (.int p3), some (.int x22), none, none] dM_set_57 (Nat.le_of_ble_eq_true rfl) (Or.inr (c1i rfl)) rfl ?_
              refine ax_iload_n (i := 2) dM_set_59 rfl rfl ?_
              replace hf := bd1_s hf
              obtain ⟨x23, hT, hf⟩ := hf
              have K : AW l E mi_M_set R B Qf 89 [some (va_rf (some o)), some (.int p1), some (.int p2), some (.int p3), some (.int x22), none, none] [.int x23] h0 := by
                clear hT
                refine ax_istore (i := 5) [some (va_rf (some o)), some (.int p1), some (.int p2), some (.int p3), some (.int x22), some (.int x23), none] dM_set_89 (Nat.le_of_ble_eq_true rfl) (Or.inr (c1i rfl)) rfl ?_
                refine ax_iload_n (i := 3) dM_set_91 rfl rfl ?_
                refine ax_iload (i := 4) dM_set_92 rfl ?_
                refine ax_iload (i := 5) dM_set_94 rfl ?_
                replace hf := bd1_s hf
                obtain ⟨x24, e_x24, hf⟩ := hf
                refine ax_callS (As := [.int p3, .int x22, .int x23]) (rest := []) (c_M_in e_x24) ml_1215 cm_M_in (Nat.le_trans (Nat.le_of_ble_eq_true rfl) hR1) (Nat.le_trans (Nat.le_of_ble_eq_true rfl) hR2) rfl rfl (Nat.le_of_ble_eq_true rfl) dM_set_96 ?_
                replace hf := ite_c hf
                rcases hf with ⟨hc, hf⟩ | ⟨hc, hf⟩
                · refine ax_if_neF 105 dM_set_99 (by decide) hc ?_
                  refine ax_bipush (-102 : Int32) dM_set_102 k8_m102 ?_
                  cases hf
                  exact Hr _ _ dM_set_104
                · refine ax_if_neT 105 dM_set_99 (by decide) hc ?_
                  refine ax_aload_n (i := 0) (some o) dM_set_105 rfl rfl ?_
                  replace hf := bd1_s hf
                  obtain ⟨r25, e_r25, hf⟩ := hf
                  refine ax_getR fl_1026 rfl dM_set_106 e_r25 ?_
                  refine ax_iconst (5 : Int32) dM_set_109 k32_5 ?_
                  refine ax_iload_n (i := 1) dM_set_110 rfl rfl ?_
                  refine ax_imul dM_set_111 ?_
                  refine ax_iload_n (i := 2) dM_set_112 rfl rfl ?_
                  refine ax_iadd dM_set_113 ?_
                  replace hf := bd1_s hf
                  obtain ⟨a26, e_d, hf⟩ := hf
                  subst e_d
                  replace hf := bd1_s hf
                  obtain ⟨x27, e_x27, hf⟩ := hf
                  refine ax_iald dM_set_114 e_x27 ?_
                  refine ax_istore (i := 6) [some (va_rf (some o)), some (.int p1), some (.int p2), some (.int p3), some (.int x22), some (.int x23), some (.int x27)] dM_set_115 (Nat.le_of_ble_eq_true rfl) (Or.inr (c1i rfl)) rfl ?_
                  refine ax_aload_n (i := 0) (some o) dM_set_117 rfl rfl ?_
                  replace hf := bd1_s hf
                  obtain ⟨r28, e_r28, hf⟩ := hf
                  refine ax_getR fl_1026 rfl dM_set_118 e_r28 ?_
                  refine ax_iconst (5 : Int32) dM_set_121 k32_5 ?_
                  refine ax_iload_n (i := 1) dM_set_122 rfl rfl ?_
                  refine ax_imul dM_set_123 ?_
                  refine ax_iload_n (i := 2) dM_set_124 rfl rfl ?_
                  refine ax_iadd dM_set_125 ?_
                  refine ax_iload_n (i := 3) dM_set_126 rfl rfl ?_
                  replace hf := bd1_s hf
                  obtain ⟨a29, e_d, hf⟩ := hf
                  subst e_d
                  replace hf := bd1_s hf
                  obtain ⟨h30, e_h30, hf⟩ := hf
                  refine ax_iast dM_set_127 e_h30 ?_
                  refine ax_iload (i := 6) dM_set_128 rfl ?_
                  cases hf
                  exact Hr _ _ dM_set_130
              replace hf := hT
              clear hT
              replace hf := ite_c hf
              rcases hf with ⟨hc, hf⟩ | ⟨hc, hf⟩
              · refine ax_if_neF 68 dM_set_60 (by decide) hc ?_
                refine ax_bipush (50 : Int32) dM_set_63 k8_50 ?_
                refine ax_goto 89 dM_set_65 (by decide) ?_
                cases hf
                exact K
              · refine ax_if_neT 68 dM_set_60 (by decide) hc ?_
                refine ax_iload_n (i := 2) dM_set_68 rfl rfl ?_
                refine ax_iconst (1 : Int32) dM_set_69 k32_1 ?_
                replace hf := ite_c hf
                rcases hf with ⟨hc, hf⟩ | ⟨hc, hf⟩
                · refine ax_icmp_neF 78 dM_set_70 (by decide) hc ?_
                  refine ax_bipush (9 : Int32) dM_set_73 k8_9 ?_
                  refine ax_goto 89 dM_set_75 (by decide) ?_
                  cases hf
                  exact K
                · refine ax_icmp_neT 78 dM_set_70 (by decide) hc ?_
                  refine ax_iload_n (i := 2) dM_set_78 rfl rfl ?_
                  refine ax_iconst (4 : Int32) dM_set_79 k32_4 ?_
                  replace hf := ite_c hf
                  rcases hf with ⟨hc, hf⟩ | ⟨hc, hf⟩
                  · refine ax_icmp_neF 88 dM_set_80 (by decide) hc ?_
                    refine ax_bipush (8 : Int32) dM_set_83 k8_8 ?_
                    refine ax_goto 89 dM_set_85 (by decide) ?_
                    cases hf
                    exact K
                  · refine ax_icmp_neT 88 dM_set_80 (by decide) hc ?_
                    refine ax_iconst (3 : Int32) dM_set_88 k32_3 ?_
                    cases hf
                    exact K
            replace hf := hT
            clear hT
            replace hf := ite_c hf
            rcases hf with ⟨hc, hf⟩ | ⟨hc, hf⟩
            · refine ax_icmp_neF 47 dM_set_40 (by decide) hc ?_
              refine ax_iconst (1 : Int32) dM_set_43 k32_1 ?_
              refine ax_goto 57 dM_set_44 (by decide) ?_
              cases hf
              exact K
            · refine ax_icmp_neT 47 dM_set_40 (by decide) hc ?_
              refine ax_iload_n (i := 2) dM_set_47 rfl rfl ?_
              refine ax_iconst (4 : Int32) dM_set_48 k32_4 ?_
              replace hf := ite_c hf
              rcases hf with ⟨hc, hf⟩ | ⟨hc, hf⟩
              · refine ax_icmp_neF 56 dM_set_49 (by decide) hc ?_
                refine ax_iconst (-1 : Int32) dM_set_52 k32_m1 ?_
                refine ax_goto 57 dM_set_53 (by decide) ?_
                cases hf
                exact K
              · refine ax_icmp_neT 56 dM_set_49 (by decide) hc ?_
                refine ax_iconst (0 : Int32) dM_set_56 k32_0 ?_
                cases hf
                exact K
      · refine ax_icmp_neT 38 dM_set_19 (by decide) hc ?_
        refine ax_iload_n (i := 2) dM_set_38 rfl rfl ?_
        refine ax_iconst (2 : Int32) dM_set_39 k32_2 ?_
        replace hf := bd1_s hf
        obtain ⟨x3, hT, hf⟩ := hf
        have K : AW l E mi_M_set R B Qf 57 [some (va_rf (some o)), some (.int p1), some (.int p2), some (.int p3), none, none, none] [.int x3] h0 := by
          clear hT
          refine ax_istore (i := 4) [some (va_rf (some o)), some (.int p1), some (.int p2), some (.int p3), some (.int x3), none, none] dM_set_57 (Nat.le_of_ble_eq_true rfl) (Or.inr (c1i rfl)) rfl ?_
          refine ax_iload_n (i := 2) dM_set_59 rfl rfl ?_
          replace hf := bd1_s hf
          obtain ⟨x4, hT, hf⟩ := hf
          have K : AW l E mi_M_set R B Qf 89 [some (va_rf (some o)), some (.int p1), some (.int p2), some (.int p3), some (.int x3), none, none] [.int x4] h0 := by
            clear hT
            refine ax_istore (i := 5) [some (va_rf (some o)), some (.int p1), some (.int p2), some (.int p3), some (.int x3), some (.int x4), none] dM_set_89 (Nat.le_of_ble_eq_true rfl) (Or.inr (c1i rfl)) rfl ?_
            refine ax_iload_n (i := 3) dM_set_91 rfl rfl ?_
            refine ax_iload (i := 4) dM_set_92 rfl ?_
            refine ax_iload (i := 5) dM_set_94 rfl ?_
            replace hf := bd1_s hf
            obtain ⟨x5, e_x5, hf⟩ := hf
            refine ax_callS (As := [.int p3, .int x3, .int x4]) (rest := []) (c_M_in e_x5) ml_1215 cm_M_in (Nat.le_trans (Nat.le_of_ble_eq_true rfl) hR1) (Nat.le_trans (Nat.le_of_ble_eq_true rfl) hR2) rfl rfl (Nat.le_of_ble_eq_true rfl) dM_set_96 ?_
            replace hf := ite_c hf
            rcases hf with ⟨hc, hf⟩ | ⟨hc, hf⟩
            · refine ax_if_neF 105 dM_set_99 (by decide) hc ?_
              refine ax_bipush (-102 : Int32) dM_set_102 k8_m102 ?_
              cases hf
              exact Hr _ _ dM_set_104
            · refine ax_if_neT 105 dM_set_99 (by decide) hc ?_
              refine ax_aload_n (i := 0) (some o) dM_set_105 rfl rfl ?_
              replace hf := bd1_s hf
              obtain ⟨r6, e_r6, hf⟩ := hf
              refine ax_getR fl_1026 rfl dM_set_106 e_r6 ?_
              refine ax_iconst (5 : Int32) dM_set_109 k32_5 ?_
              refine ax_iload_n (i := 1) dM_set_110 rfl rfl ?_
              refine ax_imul dM_set_111 ?_
              refine ax_iload_n (i := 2) dM_set_112 rfl rfl ?_
              refine ax_iadd dM_set_113 ?_
              replace hf := bd1_s hf
              obtain ⟨a7, e_d, hf⟩ := hf
              subst e_d
              replace hf := bd1_s hf
              obtain ⟨x8, e_x8, hf⟩ := hf
              refine ax_iald dM_set_114 e_x8 ?_
              refine ax_istore (i := 6) [some (va_rf (some o)), some (.int p1), some (.int p2), some (.int p3), some (.int x3), some (.int x4), some (.int x8)] dM_set_115 (Nat.le_of_ble_eq_true rfl) (Or.inr (c1i rfl)) rfl ?_
              refine ax_aload_n (i := 0) (some o) dM_set_117 rfl rfl ?_
              replace hf := bd1_s hf
              obtain ⟨r9, e_r9, hf⟩ := hf
              refine ax_getR fl_1026 rfl dM_set_118 e_r9 ?_
              refine ax_iconst (5 : Int32) dM_set_121 k32_5 ?_
              refine ax_iload_n (i := 1) dM_set_122 rfl rfl ?_
              refine ax_imul dM_set_123 ?_
              refine ax_iload_n (i := 2) dM_set_124 rfl rfl ?_
              refine ax_iadd dM_set_125 ?_
              refine ax_iload_n (i := 3) dM_set_126 rfl rfl ?_
              replace hf := bd1_s hf
              obtain ⟨a10, e_d, hf⟩ := hf
              subst e_d
              replace hf := bd1_s hf
              obtain ⟨h11, e_h11, hf⟩ := hf
              refine ax_iast dM_set_127 e_h11 ?_
              refine ax_iload (i := 6) dM_set_128 rfl ?_
              cases hf
              exact Hr _ _ dM_set_130
          replace hf := hT
          clear hT
          replace hf := ite_c hf
          rcases hf with ⟨hc, hf⟩ | ⟨hc, hf⟩
          · refine ax_if_neF 68 dM_set_60 (by decide) hc ?_
            refine ax_bipush (50 : Int32) dM_set_63 k8_50 ?_
            refine ax_goto 89 dM_set_65 (by decide) ?_
            cases hf
            exact K
          · refine ax_if_neT 68 dM_set_60 (by decide) hc ?_
            refine ax_iload_n (i := 2) dM_set_68 rfl rfl ?_
            refine ax_iconst (1 : Int32) dM_set_69 k32_1 ?_
            replace hf := ite_c hf
            rcases hf with ⟨hc, hf⟩ | ⟨hc, hf⟩
            · refine ax_icmp_neF 78 dM_set_70 (by decide) hc ?_
              refine ax_bipush (9 : Int32) dM_set_73 k8_9 ?_
              refine ax_goto 89 dM_set_75 (by decide) ?_
              cases hf
              exact K
            · refine ax_icmp_neT 78 dM_set_70 (by decide) hc ?_
              refine ax_iload_n (i := 2) dM_set_78 rfl rfl ?_
              refine ax_iconst (4 : Int32) dM_set_79 k32_4 ?_
              replace hf := ite_c hf
              rcases hf with ⟨hc, hf⟩ | ⟨hc, hf⟩
              · refine ax_icmp_neF 88 dM_set_80 (by decide) hc ?_
                refine ax_bipush (8 : Int32) dM_set_83 k8_8 ?_
                refine ax_goto 89 dM_set_85 (by decide) ?_
                cases hf
                exact K
              · refine ax_icmp_neT 88 dM_set_80 (by decide) hc ?_
                refine ax_iconst (3 : Int32) dM_set_88 k32_3 ?_
                cases hf
                exact K
        replace hf := hT
        clear hT
        replace hf := ite_c hf
        rcases hf with ⟨hc, hf⟩ | ⟨hc, hf⟩
        · refine ax_icmp_neF 47 dM_set_40 (by decide) hc ?_
          refine ax_iconst (1 : Int32) dM_set_43 k32_1 ?_
          refine ax_goto 57 dM_set_44 (by decide) ?_
          cases hf
          exact K
        · refine ax_icmp_neT 47 dM_set_40 (by decide) hc ?_
          refine ax_iload_n (i := 2) dM_set_47 rfl rfl ?_
          refine ax_iconst (4 : Int32) dM_set_48 k32_4 ?_
          replace hf := ite_c hf
          rcases hf with ⟨hc, hf⟩ | ⟨hc, hf⟩
          · refine ax_icmp_neF 56 dM_set_49 (by decide) hc ?_
            refine ax_iconst (-1 : Int32) dM_set_52 k32_m1 ?_
            refine ax_goto 57 dM_set_53 (by decide) ?_
            cases hf
            exact K
          · refine ax_icmp_neT 56 dM_set_49 (by decide) hc ?_
            refine ax_iconst (0 : Int32) dM_set_56 k32_0 ?_
            cases hf
            exact K
theorem c_M_set {l : Launch} {E : EN} {h0 : AH} {o : Nat} {p1 : Int32} {p2 : Int32} {p3 : Int32} {r : Int32} {hF : AH} (hf : f_M_set h0 o p1 p2 p3 = some (r, hF)) : AM l E 3 mi_M_set [va_rf (some o), .int p1, .int p2, .int p3] h0 (some (.int r)) hF :=
  am_of2 [(va_rf (some o), false), (.int p1, false), (.int p2, false), (.int p3, false)] 3 ⟨cat_rf _, rfl, rfl, rfl, trivial⟩ rfl rfl (v_M_set (Nat.le_refl _) (Nat.le_refl _) (fun pc L hd => ax_iret rfl hd rfl) hf)
theorem v_M_level {l : Launch} {E : EN} {R : Room} {B : (Nat × Nat) × (Nat × Nat)} {Qf : QF} {h0 : AH} {o : Nat} {p1 : Int32} {p2 : Int32} {r : Int32} {hF : AH} (hR1 : 2 ≤ R.frames) (hR2 : 128 ≤ R.locals) (Hr : ∀ (pc : Nat) (L : List (Option Value)), decode mi_M_level.2.1 pc = .ok (.ireturn, 1) → AW l E mi_M_level R B Qf pc L [.int r] hF) (hf : f_M_level h0 o p1 p2 = some (r, hF)) : AW l E mi_M_level R B Qf 0 [some (va_rf (some o)), some (.int p1), some (.int p2), none] [] h0 := by
  unfold f_M_level at hf
  refine ax_iload_n (i := 1) dM_level_0 rfl rfl ?_
  refine ax_iconst (0 : Int32) dM_level_1 k32_0 ?_
  refine ax_bipush (11 : Int32) dM_level_2 k8_11 ?_
  replace hf := bd1_s hf
  obtain ⟨x1, e_x1, hf⟩ := hf
  refine ax_callS (As := [.int p1, .int (0 : Int32), .int (11 : Int32)]) (rest := []) (c_M_in e_x1) ml_1215 cm_M_in (Nat.le_trans (Nat.le_of_ble_eq_true rfl) hR1) (Nat.le_trans (Nat.le_of_ble_eq_true rfl) hR2) rfl rfl (Nat.le_of_ble_eq_true rfl) dM_level_4 ?_
  replace hf := ite_c hf
  rcases hf with ⟨hc, hf⟩ | ⟨hc, hf⟩
  · refine ax_if_neF 13 dM_level_7 (by decide) hc ?_
    refine ax_bipush (-101 : Int32) dM_level_10 k8_m101 ?_
    cases hf
    exact Hr _ _ dM_level_12
  · refine ax_if_neT 13 dM_level_7 (by decide) hc ?_
    refine ax_iload_n (i := 2) dM_level_13 rfl rfl ?_
    refine ax_iconst (0 : Int32) dM_level_14 k32_0 ?_
    refine ax_iconst (3 : Int32) dM_level_15 k32_3 ?_
    replace hf := bd1_s hf
    obtain ⟨x2, e_x2, hf⟩ := hf
    refine ax_callS (As := [.int p2, .int (0 : Int32), .int (3 : Int32)]) (rest := []) (c_M_in e_x2) ml_1215 cm_M_in (Nat.le_trans (Nat.le_of_ble_eq_true rfl) hR1) (Nat.le_trans (Nat.le_of_ble_eq_true rfl) hR2) rfl rfl (Nat.le_of_ble_eq_true rfl) dM_level_16 ?_
    replace hf := ite_c hf
    rcases hf with ⟨hc, hf⟩ | ⟨hc, hf⟩
    · refine ax_if_neF 25 dM_level_19 (by decide) hc ?_
      refine ax_bipush (-102 : Int32) dM_level_22 k8_m102 ?_
      cases hf
      exact Hr _ _ dM_level_24
    · refine ax_if_neT 25 dM_level_19 (by decide) hc ?_
      refine ax_aload_n (i := 0) (some o) dM_level_25 rfl rfl ?_
      replace hf := bd1_s hf
      obtain ⟨r3, e_r3, hf⟩ := hf
      refine ax_getR fl_1027 rfl dM_level_26 e_r3 ?_
      refine ax_iload_n (i := 1) dM_level_29 rfl rfl ?_
      replace hf := bd1_s hf
      obtain ⟨a4, e_d, hf⟩ := hf
      subst e_d
      replace hf := bd1_s hf
      obtain ⟨x5, e_x5, hf⟩ := hf
      refine ax_iald dM_level_30 e_x5 ?_
      refine ax_istore_n (i := 3) [some (va_rf (some o)), some (.int p1), some (.int p2), some (.int x5)] dM_level_31 rfl (Nat.le_of_ble_eq_true rfl) (Or.inr (c1i rfl)) rfl ?_
      refine ax_aload_n (i := 0) (some o) dM_level_32 rfl rfl ?_
      replace hf := bd1_s hf
      obtain ⟨r6, e_r6, hf⟩ := hf
      refine ax_getR fl_1027 rfl dM_level_33 e_r6 ?_
      refine ax_iload_n (i := 1) dM_level_36 rfl rfl ?_
      refine ax_iload_n (i := 2) dM_level_37 rfl rfl ?_
      replace hf := bd1_s hf
      obtain ⟨a7, e_d, hf⟩ := hf
      subst e_d
      replace hf := bd1_s hf
      obtain ⟨h8, e_h8, hf⟩ := hf
      refine ax_iast dM_level_38 e_h8 ?_
      refine ax_iload_n (i := 3) dM_level_39 rfl rfl ?_
      cases hf
      exact Hr _ _ dM_level_40
theorem c_M_level {l : Launch} {E : EN} {h0 : AH} {o : Nat} {p1 : Int32} {p2 : Int32} {r : Int32} {hF : AH} (hf : f_M_level h0 o p1 p2 = some (r, hF)) : AM l E 2 mi_M_level [va_rf (some o), .int p1, .int p2] h0 (some (.int r)) hF :=
  am_of2 [(va_rf (some o), false), (.int p1, false), (.int p2, false)] 1 ⟨cat_rf _, rfl, rfl, trivial⟩ rfl rfl (v_M_level (Nat.le_refl _) (Nat.le_refl _) (fun pc L hd => ax_iret rfl hd rfl) hf)
theorem v_M_aboutOf {l : Launch} {E : EN} {R : Room} {B : (Nat × Nat) × (Nat × Nat)} {Qf : QF} {h0 : AH} {o : Nat} {p1 : Int32} {p2 : Int32} {r : Int32} (hR1 : 1 ≤ R.frames) (hR2 : 64 ≤ R.locals) (Hr : ∀ (pc : Nat) (L : List (Option Value)), decode mi_M_aboutOf.2.1 pc = .ok (.ireturn, 1) → AW l E mi_M_aboutOf R B Qf pc L [.int r] h0) (hf : f_M_aboutOf h0 o p1 p2 = some r) : AW l E mi_M_aboutOf R B Qf 0 [some (va_rf (some o)), some (.int p1), some (.int p2)] [] h0 := by
  unfold f_M_aboutOf at hf
  refine ax_iload_n (i := 2) dM_aboutOf_0 rfl rfl ?_
  refine ax_iconst (5 : Int32) dM_aboutOf_1 k32_5 ?_
  replace hf := ite_c hf
  rcases hf with ⟨hc, hf⟩ | ⟨hc, hf⟩
  · refine ax_icmp_geF 18 dM_aboutOf_2 (by decide) hc ?_
    refine ax_aload_n (i := 0) (some o) dM_aboutOf_5 rfl rfl ?_
    replace hf := bd1_s hf
    obtain ⟨r10, e_r10, hf⟩ := hf
    refine ax_getR fl_1026 rfl dM_aboutOf_6 e_r10 ?_
    refine ax_iconst (5 : Int32) dM_aboutOf_9 k32_5 ?_
    refine ax_iload_n (i := 1) dM_aboutOf_10 rfl rfl ?_
    refine ax_imul dM_aboutOf_11 ?_
    refine ax_iload_n (i := 2) dM_aboutOf_12 rfl rfl ?_
    refine ax_iadd dM_aboutOf_13 ?_
    replace hf := bd1_s hf
    obtain ⟨a11, e_d, hf⟩ := hf
    subst e_d
    replace hf := bd1_s hf
    obtain ⟨x12, e_x12, hf⟩ := hf
    refine ax_iald dM_aboutOf_14 e_x12 ?_
    refine ax_goto 53 dM_aboutOf_15 (by decide) ?_
    cases hf
    exact Hr _ _ dM_aboutOf_53
  · refine ax_icmp_geT 18 dM_aboutOf_2 (by decide) hc ?_
    refine ax_iload_n (i := 2) dM_aboutOf_18 rfl rfl ?_
    refine ax_iconst (5 : Int32) dM_aboutOf_19 k32_5 ?_
    replace hf := ite_c hf
    rcases hf with ⟨hc, hf⟩ | ⟨hc, hf⟩
    · refine ax_icmp_neF 32 dM_aboutOf_20 (by decide) hc ?_
      refine ax_aload_n (i := 0) (some o) dM_aboutOf_23 rfl rfl ?_
      replace hf := bd1_s hf
      obtain ⟨r7, e_r7, hf⟩ := hf
      refine ax_getR fl_1023 rfl dM_aboutOf_24 e_r7 ?_
      refine ax_iload_n (i := 1) dM_aboutOf_27 rfl rfl ?_
      replace hf := bd1_s hf
      obtain ⟨a8, e_d, hf⟩ := hf
      subst e_d
      replace hf := bd1_s hf
      obtain ⟨x9, e_x9, hf⟩ := hf
      refine ax_iald dM_aboutOf_28 e_x9 ?_
      refine ax_goto 53 dM_aboutOf_29 (by decide) ?_
      cases hf
      exact Hr _ _ dM_aboutOf_53
    · refine ax_icmp_neT 32 dM_aboutOf_20 (by decide) hc ?_
      refine ax_iload_n (i := 2) dM_aboutOf_32 rfl rfl ?_
      refine ax_bipush (6 : Int32) dM_aboutOf_33 k8_6 ?_
      replace hf := ite_c hf
      rcases hf with ⟨hc, hf⟩ | ⟨hc, hf⟩
      · refine ax_icmp_neF 47 dM_aboutOf_35 (by decide) hc ?_
        refine ax_aload_n (i := 0) (some o) dM_aboutOf_38 rfl rfl ?_
        replace hf := bd1_s hf
        obtain ⟨r4, e_r4, hf⟩ := hf
        refine ax_getR fl_1024 rfl dM_aboutOf_39 e_r4 ?_
        refine ax_iload_n (i := 1) dM_aboutOf_42 rfl rfl ?_
        replace hf := bd1_s hf
        obtain ⟨a5, e_d, hf⟩ := hf
        subst e_d
        replace hf := bd1_s hf
        obtain ⟨x6, e_x6, hf⟩ := hf
        refine ax_iald dM_aboutOf_43 e_x6 ?_
        refine ax_goto 53 dM_aboutOf_44 (by decide) ?_
        cases hf
        exact Hr _ _ dM_aboutOf_53
      · refine ax_icmp_neT 47 dM_aboutOf_35 (by decide) hc ?_
        refine ax_aload_n (i := 0) (some o) dM_aboutOf_47 rfl rfl ?_
        replace hf := bd1_s hf
        obtain ⟨r1, e_r1, hf⟩ := hf
        refine ax_getR fl_1025 rfl dM_aboutOf_48 e_r1 ?_
        refine ax_iload_n (i := 1) dM_aboutOf_51 rfl rfl ?_
        replace hf := bd1_s hf
        obtain ⟨a2, e_d, hf⟩ := hf
        subst e_d
        replace hf := bd1_s hf
        obtain ⟨x3, e_x3, hf⟩ := hf
        refine ax_iald dM_aboutOf_52 e_x3 ?_
        cases hf
        exact Hr _ _ dM_aboutOf_53
theorem c_M_aboutOf {l : Launch} {E : EN} {h0 : AH} {o : Nat} {p1 : Int32} {p2 : Int32} {r : Int32} (hf : f_M_aboutOf h0 o p1 p2 = some r) : AM l E 1 mi_M_aboutOf [va_rf (some o), .int p1, .int p2] h0 (some (.int r)) h0 :=
  am_of2 [(va_rf (some o), false), (.int p1, false), (.int p2, false)] 0 ⟨cat_rf _, rfl, rfl, trivial⟩ rfl rfl (v_M_aboutOf (Nat.le_refl _) (Nat.le_refl _) (fun pc L hd => ax_iret rfl hd rfl) hf)
theorem v_M_about {l : Launch} {E : EN} {R : Room} {B : (Nat × Nat) × (Nat × Nat)} {Qf : QF} {h0 : AH} {o : Nat} {p1 : Int32} {p2 : Int32} {r : Int32} (hR1 : 3 ≤ R.frames) (hR2 : 192 ≤ R.locals) (Hr : ∀ (pc : Nat) (L : List (Option Value)), decode mi_M_about.2.1 pc = .ok (.ireturn, 1) → AW l E mi_M_about R B Qf pc L [.int r] h0) (hf : f_M_about h0 o p1 p2 = some r) : AW l E mi_M_about R B Qf 0 [some (va_rf (some o)), some (.int p1), some (.int p2)] [] h0 := by
  unfold f_M_about at hf
  refine ax_aload_n (i := 0) (some o) dM_about_0 rfl rfl ?_
  refine ax_iload_n (i := 1) dM_about_1 rfl rfl ?_
  replace hf := bd1_s hf
  obtain ⟨x1, e_x1, hf⟩ := hf
  obtain ⟨k_e_x1, e_x1⟩ := cv_s e_x1
  refine ax_callV (As := [.int p1]) (rest := []) (c_M_isHelper e_x1) ml_1408 cm_M_isHelper rfl k_e_x1 (Nat.le_trans (Nat.le_of_ble_eq_true rfl) hR1) (Nat.le_trans (Nat.le_of_ble_eq_true rfl) hR2) rfl rfl (Nat.le_of_ble_eq_true rfl) dM_about_2 ?_
  replace hf := ite_c hf
  rcases hf with ⟨hc, hf⟩ | ⟨hc, hf⟩
  · refine ax_if_neF 13 dM_about_5 (by decide) hc ?_
    refine ax_bipush (-101 : Int32) dM_about_8 k8_m101 ?_
    refine ax_goto 34 dM_about_10 (by decide) ?_
    cases hf
    exact Hr _ _ dM_about_34
  · refine ax_if_neT 13 dM_about_5 (by decide) hc ?_
    refine ax_iload_n (i := 2) dM_about_13 rfl rfl ?_
    refine ax_iconst (0 : Int32) dM_about_14 k32_0 ?_
    refine ax_bipush (7 : Int32) dM_about_15 k8_7 ?_
    replace hf := bd1_s hf
    obtain ⟨x2, e_x2, hf⟩ := hf
    refine ax_callS (As := [.int p2, .int (0 : Int32), .int (7 : Int32)]) (rest := []) (c_M_in e_x2) ml_1215 cm_M_in (Nat.le_trans (Nat.le_of_ble_eq_true rfl) hR1) (Nat.le_trans (Nat.le_of_ble_eq_true rfl) hR2) rfl rfl (Nat.le_of_ble_eq_true rfl) dM_about_17 ?_
    replace hf := ite_c hf
    rcases hf with ⟨hc, hf⟩ | ⟨hc, hf⟩
    · refine ax_if_eqT 32 dM_about_20 (by decide) hc ?_
      refine ax_bipush (-102 : Int32) dM_about_32 k8_m102 ?_
      cases hf
      exact Hr _ _ dM_about_34
    · refine ax_if_eqF 32 dM_about_20 (by decide) hc ?_
      refine ax_aload_n (i := 0) (some o) dM_about_23 rfl rfl ?_
      refine ax_iload_n (i := 1) dM_about_24 rfl rfl ?_
      refine ax_iload_n (i := 2) dM_about_25 rfl rfl ?_
      replace hf := bd1_s hf
      obtain ⟨x3, e_x3, hf⟩ := hf
      obtain ⟨k_e_x3, e_x3⟩ := cv_s e_x3
      refine ax_callV (As := [.int p1, .int p2]) (rest := []) (c_M_aboutOf e_x3) ml_1420 cm_M_aboutOf rfl k_e_x3 (Nat.le_trans (Nat.le_of_ble_eq_true rfl) hR1) (Nat.le_trans (Nat.le_of_ble_eq_true rfl) hR2) rfl rfl (Nat.le_of_ble_eq_true rfl) dM_about_26 ?_
      refine ax_goto 34 dM_about_29 (by decide) ?_
      cases hf
      exact Hr _ _ dM_about_34
theorem c_M_about {l : Launch} {E : EN} {h0 : AH} {o : Nat} {p1 : Int32} {p2 : Int32} {r : Int32} (hf : f_M_about h0 o p1 p2 = some r) : AM l E 3 mi_M_about [va_rf (some o), .int p1, .int p2] h0 (some (.int r)) h0 :=
  am_of2 [(va_rf (some o), false), (.int p1, false), (.int p2, false)] 0 ⟨cat_rf _, rfl, rfl, trivial⟩ rfl rfl (v_M_about (Nat.le_refl _) (Nat.le_refl _) (fun pc L hd => ax_iret rfl hd rfl) hf)
theorem v_M_put {l : Launch} {E : EN} {R : Room} {B : (Nat × Nat) × (Nat × Nat)} {Qf : QF} {h0 : AH} {o : Nat} {p1 : Int32} {r : Int32} {hF : AH} (hR1 : 3 ≤ R.frames) (hR2 : 192 ≤ R.locals) (Hr : ∀ (pc : Nat) (L : List (Option Value)), decode mi_M_put.2.1 pc = .ok (.ireturn, 1) → AW l E mi_M_put R B Qf pc L [.int r] hF) (hf : f_M_put h0 o p1 = some (r, hF)) : AW l E mi_M_put R B Qf 0 [some (va_rf (some o)), some (.int p1)] [] h0 := by
  unfold f_M_put at hf
  refine ax_aload_n (i := 0) (some o) dM_put_0 rfl rfl ?_
  refine ax_iload_n (i := 1) dM_put_1 rfl rfl ?_
  replace hf := bd1_s hf
  obtain ⟨x1, e_x1, hf⟩ := hf
  obtain ⟨k_e_x1, e_x1⟩ := cv_s e_x1
  refine ax_callV (As := [.int p1]) (rest := []) (c_M_isHelper e_x1) ml_1408 cm_M_isHelper rfl k_e_x1 (Nat.le_trans (Nat.le_of_ble_eq_true rfl) hR1) (Nat.le_trans (Nat.le_of_ble_eq_true rfl) hR2) rfl rfl (Nat.le_of_ble_eq_true rfl) dM_put_2 ?_
  replace hf := ite_c hf
  rcases hf with ⟨hc, hf⟩ | ⟨hc, hf⟩
  · refine ax_if_neF 11 dM_put_5 (by decide) hc ?_
    refine ax_bipush (-101 : Int32) dM_put_8 k8_m101 ?_
    cases hf
    exact Hr _ _ dM_put_10
  · refine ax_if_neT 11 dM_put_5 (by decide) hc ?_
    refine ax_aload_n (i := 0) (some o) dM_put_11 rfl rfl ?_
    replace hf := bd1_s hf
    obtain ⟨x2, e_x2, hf⟩ := hf
    refine ax_getI fl_1028 rfl dM_put_12 e_x2 ?_
    refine ax_iconst (5 : Int32) dM_put_15 k32_5 ?_
    replace hf := ite_c hf
    rcases hf with ⟨hc, hf⟩ | ⟨hc, hf⟩
    · refine ax_icmp_neF 22 dM_put_16 (by decide) hc ?_
      refine ax_bipush (-104 : Int32) dM_put_19 k8_m104 ?_
      cases hf
      exact Hr _ _ dM_put_21
    · refine ax_icmp_neT 22 dM_put_16 (by decide) hc ?_
      refine ax_aload_n (i := 0) (some o) dM_put_22 rfl rfl ?_
      replace hf := bd1_s hf
      obtain ⟨r3, e_r3, hf⟩ := hf
      refine ax_getR fl_1029 rfl dM_put_23 e_r3 ?_
      refine ax_aload_n (i := 0) (some o) dM_put_26 rfl rfl ?_
      replace hf := bd1_s hf
      obtain ⟨x4, e_x4, hf⟩ := hf
      refine ax_getI fl_1028 rfl dM_put_27 e_x4 ?_
      refine ax_iload_n (i := 1) dM_put_30 rfl rfl ?_
      replace hf := bd1_s hf
      obtain ⟨a5, e_d, hf⟩ := hf
      subst e_d
      replace hf := bd1_s hf
      obtain ⟨h6, e_h6, hf⟩ := hf
      refine ax_iast dM_put_31 e_h6 ?_
      refine ax_aload_n (i := 0) (some o) dM_put_32 rfl rfl ?_
      refine ax_dup dM_put_33 rfl ?_
      replace hf := bd1_s hf
      obtain ⟨x7, e_x7, hf⟩ := hf
      refine ax_getI fl_1028 rfl dM_put_34 e_x7 ?_
      refine ax_iconst (1 : Int32) dM_put_37 k32_1 ?_
      refine ax_iadd dM_put_38 ?_
      replace hf := bd1_s hf
      obtain ⟨h8, e_h8, hf⟩ := hf
      refine ax_putI fw_1028 rfl rfl dM_put_39 e_h8 ?_
      refine ax_aload_n (i := 0) (some o) dM_put_42 rfl rfl ?_
      replace hf := bd1_s hf
      obtain ⟨x9, e_x9, hf⟩ := hf
      refine ax_getI fl_1028 rfl dM_put_43 e_x9 ?_
      cases hf
      exact Hr _ _ dM_put_46
theorem c_M_put {l : Launch} {E : EN} {h0 : AH} {o : Nat} {p1 : Int32} {r : Int32} {hF : AH} (hf : f_M_put h0 o p1 = some (r, hF)) : AM l E 3 mi_M_put [va_rf (some o), .int p1] h0 (some (.int r)) hF :=
  am_of2 [(va_rf (some o), false), (.int p1, false)] 0 ⟨cat_rf _, rfl, trivial⟩ rfl rfl (v_M_put (Nat.le_refl _) (Nat.le_refl _) (fun pc L hd => ax_iret rfl hd rfl) hf)
theorem v_M_empty {l : Launch} {E : EN} {R : Room} {B : (Nat × Nat) × (Nat × Nat)} {Qf : QF} {h0 : AH} {o : Nat} {r : Int32} {hF : AH} (hR1 : 1 ≤ R.frames) (hR2 : 64 ≤ R.locals) (Hr : ∀ (pc : Nat) (L : List (Option Value)), decode mi_M_empty.2.1 pc = .ok (.ireturn, 1) → AW l E mi_M_empty R B Qf pc L [.int r] hF) (hf : f_M_empty h0 o = some (r, hF)) : AW l E mi_M_empty R B Qf 0 [some (va_rf (some o)), none] [] h0 := by
  unfold f_M_empty at hf
  refine ax_aload_n (i := 0) (some o) dM_empty_0 rfl rfl ?_
  replace hf := bd1_s hf
  obtain ⟨x1, e_x1, hf⟩ := hf
  refine ax_getI fl_1028 rfl dM_empty_1 e_x1 ?_
  refine ax_istore_n (i := 1) [some (va_rf (some o)), some (.int x1)] dM_empty_4 rfl (Nat.le_of_ble_eq_true rfl) (Or.inr (c1r rfl)) rfl ?_
  refine ax_aload_n (i := 0) (some o) dM_empty_5 rfl rfl ?_
  refine ax_iconst (0 : Int32) dM_empty_6 k32_0 ?_
  replace hf := bd1_s hf
  obtain ⟨h2, e_h2, hf⟩ := hf
  refine ax_putI fw_1028 rfl rfl dM_empty_7 e_h2 ?_
  refine ax_iload_n (i := 1) dM_empty_10 rfl rfl ?_
  cases hf
  exact Hr _ _ dM_empty_11
theorem c_M_empty {l : Launch} {E : EN} {h0 : AH} {o : Nat} {r : Int32} {hF : AH} (hf : f_M_empty h0 o = some (r, hF)) : AM l E 1 mi_M_empty [va_rf (some o)] h0 (some (.int r)) hF :=
  am_of2 [(va_rf (some o), false)] 1 ⟨cat_rf _, trivial⟩ rfl rfl (v_M_empty (Nat.le_refl _) (Nat.le_refl _) (fun pc L hd => ax_iret rfl hd rfl) hf)
theorem v_M_at {l : Launch} {E : EN} {R : Room} {B : (Nat × Nat) × (Nat × Nat)} {Qf : QF} {h0 : AH} {o : Nat} {p1 : Int32} {r : Int32} (hR1 : 2 ≤ R.frames) (hR2 : 128 ≤ R.locals) (Hr : ∀ (pc : Nat) (L : List (Option Value)), decode mi_M_at.2.1 pc = .ok (.ireturn, 1) → AW l E mi_M_at R B Qf pc L [.int r] h0) (hf : f_M_at h0 o p1 = some r) : AW l E mi_M_at R B Qf 0 [some (va_rf (some o)), some (.int p1)] [] h0 := by
  unfold f_M_at at hf
  refine ax_iload_n (i := 1) dM_at_0 rfl rfl ?_
  refine ax_iconst (0 : Int32) dM_at_1 k32_0 ?_
  refine ax_aload_n (i := 0) (some o) dM_at_2 rfl rfl ?_
  replace hf := bd1_s hf
  obtain ⟨x1, e_x1, hf⟩ := hf
  refine ax_getI fl_1028 rfl dM_at_3 e_x1 ?_
  refine ax_iconst (1 : Int32) dM_at_6 k32_1 ?_
  refine ax_isub dM_at_7 ?_
  replace hf := bd1_s hf
  obtain ⟨x2, e_x2, hf⟩ := hf
  refine ax_callS (As := [.int p1, .int (0 : Int32), .int (x1 - (1 : Int32))]) (rest := []) (c_M_in e_x2) ml_1215 cm_M_in (Nat.le_trans (Nat.le_of_ble_eq_true rfl) hR1) (Nat.le_trans (Nat.le_of_ble_eq_true rfl) hR2) rfl rfl (Nat.le_of_ble_eq_true rfl) dM_at_8 ?_
  replace hf := ite_c hf
  rcases hf with ⟨hc, hf⟩ | ⟨hc, hf⟩
  · refine ax_if_eqT 23 dM_at_11 (by decide) hc ?_
    refine ax_iconst (-1 : Int32) dM_at_23 k32_m1 ?_
    cases hf
    exact Hr _ _ dM_at_24
  · refine ax_if_eqF 23 dM_at_11 (by decide) hc ?_
    refine ax_aload_n (i := 0) (some o) dM_at_14 rfl rfl ?_
    replace hf := bd1_s hf
    obtain ⟨r3, e_r3, hf⟩ := hf
    refine ax_getR fl_1029 rfl dM_at_15 e_r3 ?_
    refine ax_iload_n (i := 1) dM_at_18 rfl rfl ?_
    replace hf := bd1_s hf
    obtain ⟨a4, e_d, hf⟩ := hf
    subst e_d
    replace hf := bd1_s hf
    obtain ⟨x5, e_x5, hf⟩ := hf
    refine ax_iald dM_at_19 e_x5 ?_
    refine ax_goto 24 dM_at_20 (by decide) ?_
    cases hf
    exact Hr _ _ dM_at_24
theorem c_M_at {l : Launch} {E : EN} {h0 : AH} {o : Nat} {p1 : Int32} {r : Int32} (hf : f_M_at h0 o p1 = some r) : AM l E 2 mi_M_at [va_rf (some o), .int p1] h0 (some (.int r)) h0 :=
  am_of2 [(va_rf (some o), false), (.int p1, false)] 0 ⟨cat_rf _, rfl, trivial⟩ rfl rfl (v_M_at (Nat.le_refl _) (Nat.le_refl _) (fun pc L hd => ax_iret rfl hd rfl) hf)
theorem w_M_start_L7 {l : Launch} {E : EN} {R : Room} {B : (Nat × Nat) × (Nat × Nat)} {Qf : QF} {hF : AH} (hR1 : 1 ≤ R.frames) (hR2 : 64 ≤ R.locals) (Hr : ∀ (pc : Nat) (L : List (Option Value)), decode mi_M_start.2.1 pc = .ok (.return_, 1) → AW l E mi_M_start R B Qf pc L [] hF) {y0 : Nat} : ∀ (n : Nat) (z2 : Int32) (h : AH), f_M_start_L7 y0 n z2 h = some hF → AW l E mi_M_start R B Qf 7 [some (va_rf (some y0)), none, some (.int z2)] [] h := by
  intro n
  induction n with
  | zero => intro z2 h hf; cases hf
  | succ n ih =>
    intro z2 h hf
    rw [f_M_start_L7] at hf
    refine ax_iload_n (i := 2) dM_start_7 rfl rfl ?_
    refine ax_bipush (12 : Int32) dM_start_8 k8_12 ?_
    replace hf := ite_c hf
    rcases hf with ⟨hc, hf⟩ | ⟨hc, hf⟩
    · refine ax_icmp_geF 31 dM_start_10 (by decide) hc ?_
      refine ax_aload_n (i := 0) (some y0) dM_start_13 rfl rfl ?_
      replace hf := bd1_s hf
      obtain ⟨r2, e_r2, hf⟩ := hf
      refine ax_getR fl_1065 rfl dM_start_14 e_r2 ?_
      refine ax_iload_n (i := 2) dM_start_17 rfl rfl ?_
      refine ax_aload_n (i := 0) (some y0) dM_start_18 rfl rfl ?_
      replace hf := bd1_s hf
      obtain ⟨r3, e_r3, hf⟩ := hf
      refine ax_getR fl_1027 rfl dM_start_19 e_r3 ?_
      refine ax_iload_n (i := 2) dM_start_22 rfl rfl ?_
      replace hf := bd1_s hf
      obtain ⟨a4, e_d, hf⟩ := hf
      subst e_d
      replace hf := bd1_s hf
      obtain ⟨x5, e_x5, hf⟩ := hf
      refine ax_iald dM_start_23 e_x5 ?_
      replace hf := bd1_s hf
      obtain ⟨a6, e_d, hf⟩ := hf
      subst e_d
      replace hf := bd1_s hf
      obtain ⟨h7, e_h7, hf⟩ := hf
      refine ax_iast dM_start_24 e_h7 ?_
      refine ax_iinc (i := 2) (z2 + (1 : Int32)) [some (va_rf (some y0)), none, some (.int (z2 + (1 : Int32)))] dM_start_25 rfl (iic k32_1) (Or.inr (c1n rfl)) rfl ?_
      refine ax_goto 7 dM_start_28 (by decide) ?_
      exact ih (z2 + (1 : Int32)) h7 hf
    · refine ax_icmp_geT 31 dM_start_10 (by decide) hc ?_
      cases hf
      exact Hr _ _ dM_start_31
theorem v_M_start {l : Launch} {E : EN} {R : Room} {B : (Nat × Nat) × (Nat × Nat)} {Qf : QF} {h0 : AH} {o : Nat} {p1 : Int32} {hF : AH} (hR1 : 1 ≤ R.frames) (hR2 : 64 ≤ R.locals) (Hr : ∀ (pc : Nat) (L : List (Option Value)), decode mi_M_start.2.1 pc = .ok (.return_, 1) → AW l E mi_M_start R B Qf pc L [] hF) (hf : f_M_start h0 o p1 = some hF) : AW l E mi_M_start R B Qf 0 [some (va_rf (some o)), some (.int p1), none] [] h0 := by
  unfold f_M_start at hf
  refine ax_aload_n (i := 0) (some o) dM_start_0 rfl rfl ?_
  refine ax_iload_n (i := 1) dM_start_1 rfl rfl ?_
  replace hf := bd1_s hf
  obtain ⟨h1, e_h1, hf⟩ := hf
  refine ax_putI fw_1064 rfl rfl dM_start_2 e_h1 ?_
  refine ax_iconst (0 : Int32) dM_start_5 k32_0 ?_
  refine ax_istore_n (i := 2) [some (va_rf (some o)), some (.int p1), some (.int (0 : Int32))] dM_start_6 rfl (Nat.le_of_ble_eq_true rfl) (Or.inr (c1i rfl)) rfl ?_
  refine ax_mask [true, false, true] rfl [some (va_rf (some o)), none, some (.int (0 : Int32))] rfl ?_
  refine w_M_start_L7 hR1 hR2 Hr FU (0 : Int32) h1 hf
theorem c_M_start {l : Launch} {E : EN} {h0 : AH} {o : Nat} {p1 : Int32} {hF : AH} (hf : f_M_start h0 o p1 = some hF) : AM l E 1 mi_M_start [va_rf (some o), .int p1] h0 none hF :=
  am_of2 [(va_rf (some o), false), (.int p1, false)] 1 ⟨cat_rf _, rfl, trivial⟩ rfl rfl (v_M_start (Nat.le_refl _) (Nat.le_refl _) (fun pc L hd => ax_vret rfl hd rfl) hf)
theorem w_M_worst_L4 {l : Launch} {E : EN} {R : Room} {B : (Nat × Nat) × (Nat × Nat)} {Qf : QF} {h0 : AH} {r : Int32} (hR1 : 1 ≤ R.frames) (hR2 : 64 ≤ R.locals) (Hr : ∀ (pc : Nat) (L : List (Option Value)), decode mi_M_worst.2.1 pc = .ok (.ireturn, 1) → AW l E mi_M_worst R B Qf pc L [.int r] h0) {y0 : Nat} {y1 : Int32} : ∀ (n : Nat) (z2 : Int32) (z3 : Int32), f_M_worst_L4 h0 y0 y1 n z2 z3 = some r → AW l E mi_M_worst R B Qf 4 [some (va_rf (some y0)), some (.int y1), some (.int z2), some (.int z3)] [] h0 := by
  intro n
  induction n with
  | zero => intro z2 z3 hf; cases hf
  | succ n ih =>
    intro z2 z3 hf
    rw [f_M_worst_L4] at hf
    refine ax_iload_n (i := 3) dM_worst_4 rfl rfl ?_
    refine ax_bipush (12 : Int32) dM_worst_5 k8_12 ?_
    replace hf := ite_c hf
    rcases hf with ⟨hc, hf⟩ | ⟨hc, hf⟩
    · refine ax_icmp_geF 46 dM_worst_7 (by decide) hc ?_
      refine ax_iload_n (i := 1) dM_worst_10 rfl rfl ?_
      refine ax_iload_n (i := 3) dM_worst_11 rfl rfl ?_
      refine ax_ishr dM_worst_12 ?_
      refine ax_iconst (1 : Int32) dM_worst_13 k32_1 ?_
      refine ax_iand dM_worst_14 ?_
      refine ax_iconst (1 : Int32) dM_worst_15 k32_1 ?_
      replace hf := bd1_s hf
      obtain ⟨x7, hT, hf⟩ := hf
      have K : AW l E mi_M_worst R B Qf 39 [some (va_rf (some y0)), some (.int y1), none, some (.int z3)] [.int x7] h0 := by
        clear hT
        refine ax_istore_n (i := 2) [some (va_rf (some y0)), some (.int y1), some (.int x7), some (.int z3)] dM_worst_39 rfl (Nat.le_of_ble_eq_true rfl) (Or.inr (c1i rfl)) rfl ?_
        refine ax_iinc (i := 3) (z3 + (1 : Int32)) [some (va_rf (some y0)), some (.int y1), some (.int x7), some (.int (z3 + (1 : Int32)))] dM_worst_40 rfl (iic k32_1) (Or.inr (c1i rfl)) rfl ?_
        refine ax_goto 4 dM_worst_43 (by decide) ?_
        exact ih x7 (z3 + (1 : Int32)) hf
      replace hf := hT
      clear hT
      replace hf := ite_c hf
      rcases hf with ⟨hc, hf⟩ | ⟨hc, hf⟩
      · refine ax_icmp_neF 38 dM_worst_16 (by decide) hc ?_
        refine ax_aload_n (i := 0) (some y0) dM_worst_19 rfl rfl ?_
        replace hf := bd1_s hf
        obtain ⟨r1, e_r1, hf⟩ := hf
        refine ax_getR fl_1065 rfl dM_worst_20 e_r1 ?_
        refine ax_iload_n (i := 3) dM_worst_23 rfl rfl ?_
        replace hf := bd1_s hf
        obtain ⟨a2, e_d, hf⟩ := hf
        subst e_d
        replace hf := bd1_s hf
        obtain ⟨x3, e_x3, hf⟩ := hf
        refine ax_iald dM_worst_24 e_x3 ?_
        refine ax_iload_n (i := 2) dM_worst_25 rfl rfl ?_
        replace hf := ite_c hf
        rcases hf with ⟨hc, hf⟩ | ⟨hc, hf⟩
        · refine ax_icmp_leF 38 dM_worst_26 (by decide) hc ?_
          refine ax_aload_n (i := 0) (some y0) dM_worst_29 rfl rfl ?_
          replace hf := bd1_s hf
          obtain ⟨r4, e_r4, hf⟩ := hf
          refine ax_getR fl_1065 rfl dM_worst_30 e_r4 ?_
          refine ax_iload_n (i := 3) dM_worst_33 rfl rfl ?_
          replace hf := bd1_s hf
          obtain ⟨a5, e_d, hf⟩ := hf
          subst e_d
          replace hf := bd1_s hf
          obtain ⟨x6, e_x6, hf⟩ := hf
          refine ax_iald dM_worst_34 e_x6 ?_
          refine ax_goto 39 dM_worst_35 (by decide) ?_
          refine ax_mask [true, true, false, true] rfl [some (va_rf (some y0)), some (.int y1), none, some (.int z3)] rfl ?_
          cases hf
          exact K
        · refine ax_icmp_leT 38 dM_worst_26 (by decide) hc ?_
          refine ax_iload_n (i := 2) dM_worst_38 rfl rfl ?_
          refine ax_mask [true, true, false, true] rfl [some (va_rf (some y0)), some (.int y1), none, some (.int z3)] rfl ?_
          cases hf
          exact K
      · refine ax_icmp_neT 38 dM_worst_16 (by decide) hc ?_
        refine ax_iload_n (i := 2) dM_worst_38 rfl rfl ?_
        refine ax_mask [true, true, false, true] rfl [some (va_rf (some y0)), some (.int y1), none, some (.int z3)] rfl ?_
        cases hf
        exact K
    · refine ax_icmp_geT 46 dM_worst_7 (by decide) hc ?_
      refine ax_iload_n (i := 2) dM_worst_46 rfl rfl ?_
      cases hf
      exact Hr _ _ dM_worst_47
theorem v_M_worst {l : Launch} {E : EN} {R : Room} {B : (Nat × Nat) × (Nat × Nat)} {Qf : QF} {h0 : AH} {o : Nat} {p1 : Int32} {r : Int32} (hR1 : 1 ≤ R.frames) (hR2 : 64 ≤ R.locals) (Hr : ∀ (pc : Nat) (L : List (Option Value)), decode mi_M_worst.2.1 pc = .ok (.ireturn, 1) → AW l E mi_M_worst R B Qf pc L [.int r] h0) (hf : f_M_worst h0 o p1 = some r) : AW l E mi_M_worst R B Qf 0 [some (va_rf (some o)), some (.int p1), none, none] [] h0 := by
  unfold f_M_worst at hf
  refine ax_iconst (0 : Int32) dM_worst_0 k32_0 ?_
  refine ax_istore_n (i := 2) [some (va_rf (some o)), some (.int p1), some (.int (0 : Int32)), none] dM_worst_1 rfl (Nat.le_of_ble_eq_true rfl) (Or.inr (c1i rfl)) rfl ?_
  refine ax_iconst (0 : Int32) dM_worst_2 k32_0 ?_
  refine ax_istore_n (i := 3) [some (va_rf (some o)), some (.int p1), some (.int (0 : Int32)), some (.int (0 : Int32))] dM_worst_3 rfl (Nat.le_of_ble_eq_true rfl) (Or.inr (c1i rfl)) rfl ?_
  refine w_M_worst_L4 hR1 hR2 Hr FU (0 : Int32) (0 : Int32) hf
theorem c_M_worst {l : Launch} {E : EN} {h0 : AH} {o : Nat} {p1 : Int32} {r : Int32} (hf : f_M_worst h0 o p1 = some r) : AM l E 1 mi_M_worst [va_rf (some o), .int p1] h0 (some (.int r)) h0 :=
  am_of2 [(va_rf (some o), false), (.int p1, false)] 2 ⟨cat_rf _, rfl, trivial⟩ rfl rfl (v_M_worst (Nat.le_refl _) (Nat.le_refl _) (fun pc L hd => ax_iret rfl hd rfl) hf)
theorem v_M_mayGo {l : Launch} {E : EN} {R : Room} {B : (Nat × Nat) × (Nat × Nat)} {Qf : QF} {h0 : AH} {o : Nat} {p1 : Int32} {r : Int32} (hR1 : 2 ≤ R.frames) (hR2 : 128 ≤ R.locals) (Hr : (r = 0 ∨ r = 1) → ∀ (pc : Nat) (L : List (Option Value)), decode mi_M_mayGo.2.1 pc = .ok (.ireturn, 1) → AW l E mi_M_mayGo R B Qf pc L [.int r] h0) (hf : f_M_mayGo h0 o p1 = some r) : AW l E mi_M_mayGo R B Qf 0 [some (va_rf (some o)), some (.int p1)] [] h0 := by
  unfold f_M_mayGo at hf
  refine ax_aload_n (i := 0) (some o) dM_mayGo_0 rfl rfl ?_
  replace hf := bd1_s hf
  obtain ⟨r1, e_r1, hf⟩ := hf
  refine ax_getR fl_1023 rfl dM_mayGo_1 e_r1 ?_
  refine ax_iload_n (i := 1) dM_mayGo_4 rfl rfl ?_
  replace hf := bd1_s hf
  obtain ⟨a2, e_d, hf⟩ := hf
  subst e_d
  replace hf := bd1_s hf
  obtain ⟨x3, e_x3, hf⟩ := hf
  refine ax_iald dM_mayGo_5 e_x3 ?_
  refine ax_aload_n (i := 0) (some o) dM_mayGo_6 rfl rfl ?_
  replace hf := bd1_s hf
  obtain ⟨x4, e_x4, hf⟩ := hf
  refine ax_getI fl_1064 rfl dM_mayGo_7 e_x4 ?_
  refine ax_iconst (-1 : Int32) dM_mayGo_10 k32_m1 ?_
  refine ax_ixor dM_mayGo_11 ?_
  refine ax_iand dM_mayGo_12 ?_
  replace hf := ite_c hf
  rcases hf with ⟨hc, hf⟩ | ⟨hc, hf⟩
  · refine ax_if_neF 43 dM_mayGo_13 (by decide) hc ?_
    refine ax_aload_n (i := 0) (some o) dM_mayGo_16 rfl rfl ?_
    refine ax_aload_n (i := 0) (some o) dM_mayGo_17 rfl rfl ?_
    replace hf := bd1_s hf
    obtain ⟨r5, e_r5, hf⟩ := hf
    refine ax_getR fl_1023 rfl dM_mayGo_18 e_r5 ?_
    refine ax_iload_n (i := 1) dM_mayGo_21 rfl rfl ?_
    replace hf := bd1_s hf
    obtain ⟨a6, e_d, hf⟩ := hf
    subst e_d
    replace hf := bd1_s hf
    obtain ⟨x7, e_x7, hf⟩ := hf
    refine ax_iald dM_mayGo_22 e_x7 ?_
    replace hf := bd1_s hf
    obtain ⟨x8, e_x8, hf⟩ := hf
    obtain ⟨k_e_x8, e_x8⟩ := cv_s e_x8
    refine ax_callV (As := [.int x7]) (rest := []) (c_M_worst e_x8) ml_1452 cm_M_worst rfl k_e_x8 (Nat.le_trans (Nat.le_of_ble_eq_true rfl) hR1) (Nat.le_trans (Nat.le_of_ble_eq_true rfl) hR2) rfl rfl (Nat.le_of_ble_eq_true rfl) dM_mayGo_23 ?_
    refine ax_aload_n (i := 0) (some o) dM_mayGo_26 rfl rfl ?_
    replace hf := bd1_s hf
    obtain ⟨r9, e_r9, hf⟩ := hf
    refine ax_getR fl_1026 rfl dM_mayGo_27 e_r9 ?_
    refine ax_iconst (5 : Int32) dM_mayGo_30 k32_5 ?_
    refine ax_iload_n (i := 1) dM_mayGo_31 rfl rfl ?_
    refine ax_imul dM_mayGo_32 ?_
    refine ax_iconst (3 : Int32) dM_mayGo_33 k32_3 ?_
    refine ax_iadd dM_mayGo_34 ?_
    replace hf := bd1_s hf
    obtain ⟨a10, e_d, hf⟩ := hf
    subst e_d
    replace hf := bd1_s hf
    obtain ⟨x11, e_x11, hf⟩ := hf
    refine ax_iald dM_mayGo_35 e_x11 ?_
    replace hf := ite_c hf
    rcases hf with ⟨hc, hf⟩ | ⟨hc, hf⟩
    · refine ax_icmp_gtT 43 dM_mayGo_36 (by decide) hc ?_
      refine ax_iconst (0 : Int32) dM_mayGo_43 k32_0 ?_
      cases hf
      exact Hr (Or.inl rfl) _ _ dM_mayGo_44
    · refine ax_icmp_gtF 43 dM_mayGo_36 (by decide) hc ?_
      refine ax_iconst (1 : Int32) dM_mayGo_39 k32_1 ?_
      refine ax_goto 44 dM_mayGo_40 (by decide) ?_
      cases hf
      exact Hr (Or.inr rfl) _ _ dM_mayGo_44
  · refine ax_if_neT 43 dM_mayGo_13 (by decide) hc ?_
    refine ax_iconst (0 : Int32) dM_mayGo_43 k32_0 ?_
    cases hf
    exact Hr (Or.inl rfl) _ _ dM_mayGo_44
theorem c_M_mayGo {l : Launch} {E : EN} {h0 : AH} {o : Nat} {p1 : Int32} {r : Int32} (hf : f_M_mayGo h0 o p1 = some r) : AM l E 2 mi_M_mayGo [va_rf (some o), .int p1] h0 (some (.int r)) h0 :=
  am_of2 [(va_rf (some o), false), (.int p1, false)] 0 ⟨cat_rf _, rfl, trivial⟩ rfl rfl (v_M_mayGo (Nat.le_refl _) (Nat.le_refl _) (fun hz pc L hd => ax_zret rfl hz hd rfl) hf)
theorem w_M_goOne_L37 {l : Launch} {E : EN} {R : Room} {B : (Nat × Nat) × (Nat × Nat)} {Qf : QF} {hF : AH} (hR1 : 2 ≤ R.frames) (hR2 : 128 ≤ R.locals) (Hr : ∀ (pc : Nat) (L : List (Option Value)), decode mi_M_goOne.2.1 pc = .ok (.return_, 1) → AW l E mi_M_goOne R B Qf pc L [] hF) {y0 : Nat} {y1 : Int32} {y2 : Int32} : ∀ (n : Nat) (z3 : Int32) (h : AH), f_M_goOne_L37 y0 y1 y2 n z3 h = some hF → AW l E mi_M_goOne R B Qf 37 [some (va_rf (some y0)), some (.int y1), some (.int y2), some (.int z3)] [] h := by
  intro n
  induction n with
  | zero => intro z3 h hf; cases hf
  | succ n ih =>
    intro z3 h hf
    rw [f_M_goOne_L37] at hf
    refine ax_iload_n (i := 3) dM_goOne_37 rfl rfl ?_
    refine ax_bipush (12 : Int32) dM_goOne_38 k8_12 ?_
    replace hf := ite_c hf
    rcases hf with ⟨hc, hf⟩ | ⟨hc, hf⟩
    · refine ax_icmp_geF 89 dM_goOne_40 (by decide) hc ?_
      refine ax_aload_n (i := 0) (some y0) dM_goOne_43 rfl rfl ?_
      replace hf := bd1_s hf
      obtain ⟨r13, e_r13, hf⟩ := hf
      refine ax_getR fl_1024 rfl dM_goOne_44 e_r13 ?_
      refine ax_iload_n (i := 1) dM_goOne_47 rfl rfl ?_
      replace hf := bd1_s hf
      obtain ⟨a14, e_d, hf⟩ := hf
      subst e_d
      replace hf := bd1_s hf
      obtain ⟨x15, e_x15, hf⟩ := hf
      refine ax_iald dM_goOne_48 e_x15 ?_
      refine ax_iload_n (i := 3) dM_goOne_49 rfl rfl ?_
      refine ax_ishr dM_goOne_50 ?_
      refine ax_iconst (1 : Int32) dM_goOne_51 k32_1 ?_
      refine ax_iand dM_goOne_52 ?_
      refine ax_iconst (1 : Int32) dM_goOne_53 k32_1 ?_
      replace hf := ite_c hf
      rcases hf with ⟨hc, hf⟩ | ⟨hc, hf⟩
      · refine ax_icmp_neF 83 dM_goOne_54 (by decide) hc ?_
        refine ax_aload_n (i := 0) (some y0) dM_goOne_57 rfl rfl ?_
        replace hf := bd1_s hf
        obtain ⟨r16, e_r16, hf⟩ := hf
        refine ax_getR fl_1065 rfl dM_goOne_58 e_r16 ?_
        refine ax_iload_n (i := 3) dM_goOne_61 rfl rfl ?_
        refine ax_aload_n (i := 0) (some y0) dM_goOne_62 rfl rfl ?_
        replace hf := bd1_s hf
        obtain ⟨r17, e_r17, hf⟩ := hf
        refine ax_getR fl_1027 rfl dM_goOne_63 e_r17 ?_
        refine ax_iload_n (i := 3) dM_goOne_66 rfl rfl ?_
        replace hf := bd1_s hf
        obtain ⟨a18, e_d, hf⟩ := hf
        subst e_d
        replace hf := bd1_s hf
        obtain ⟨x19, e_x19, hf⟩ := hf
        refine ax_iald dM_goOne_67 e_x19 ?_
        refine ax_iload_n (i := 2) dM_goOne_68 rfl rfl ?_
        replace hf := bd1_s hf
        obtain ⟨x23, hT, hf⟩ := hf
        have K : AW l E mi_M_goOne R B Qf 82 [some (va_rf (some y0)), some (.int y1), some (.int y2), some (.int z3)] [.int x23, .int z3, va_rf r16] h := by
          clear hT
          replace hf := bd1_s hf
          obtain ⟨a24, e_d, hf⟩ := hf
          subst e_d
          replace hf := bd1_s hf
          obtain ⟨h25, e_h25, hf⟩ := hf
          refine ax_iast dM_goOne_82 e_h25 ?_
          refine ax_iinc (i := 3) (z3 + (1 : Int32)) [some (va_rf (some y0)), some (.int y1), some (.int y2), some (.int (z3 + (1 : Int32)))] dM_goOne_83 rfl (iic k32_1) (Or.inr (c1i rfl)) rfl ?_
          refine ax_goto 37 dM_goOne_86 (by decide) ?_
          exact ih (z3 + (1 : Int32)) h25 hf
        replace hf := hT
        clear hT
        replace hf := ite_c hf
        rcases hf with ⟨hc, hf⟩ | ⟨hc, hf⟩
        · refine ax_icmp_leF 81 dM_goOne_69 (by decide) hc ?_
          refine ax_aload_n (i := 0) (some y0) dM_goOne_72 rfl rfl ?_
          replace hf := bd1_s hf
          obtain ⟨r20, e_r20, hf⟩ := hf
          refine ax_getR fl_1027 rfl dM_goOne_73 e_r20 ?_
          refine ax_iload_n (i := 3) dM_goOne_76 rfl rfl ?_
          replace hf := bd1_s hf
          obtain ⟨a21, e_d, hf⟩ := hf
          subst e_d
          replace hf := bd1_s hf
          obtain ⟨x22, e_x22, hf⟩ := hf
          refine ax_iald dM_goOne_77 e_x22 ?_
          refine ax_goto 82 dM_goOne_78 (by decide) ?_
          cases hf
          exact K
        · refine ax_icmp_leT 81 dM_goOne_69 (by decide) hc ?_
          refine ax_iload_n (i := 2) dM_goOne_81 rfl rfl ?_
          cases hf
          exact K
      · refine ax_icmp_neT 83 dM_goOne_54 (by decide) hc ?_
        refine ax_iinc (i := 3) (z3 + (1 : Int32)) [some (va_rf (some y0)), some (.int y1), some (.int y2), some (.int (z3 + (1 : Int32)))] dM_goOne_83 rfl (iic k32_1) (Or.inr (c1i rfl)) rfl ?_
        refine ax_goto 37 dM_goOne_86 (by decide) ?_
        exact ih (z3 + (1 : Int32)) h hf
    · refine ax_icmp_geT 89 dM_goOne_40 (by decide) hc ?_
      cases hf
      exact Hr _ _ dM_goOne_89
theorem v_M_goOne {l : Launch} {E : EN} {R : Room} {B : (Nat × Nat) × (Nat × Nat)} {Qf : QF} {h0 : AH} {o : Nat} {p1 : Int32} {hF : AH} (hR1 : 2 ≤ R.frames) (hR2 : 128 ≤ R.locals) (Hr : ∀ (pc : Nat) (L : List (Option Value)), decode mi_M_goOne.2.1 pc = .ok (.return_, 1) → AW l E mi_M_goOne R B Qf pc L [] hF) (hf : f_M_goOne h0 o p1 = some hF) : AW l E mi_M_goOne R B Qf 0 [some (va_rf (some o)), some (.int p1), none, none] [] h0 := by
  unfold f_M_goOne at hf
  refine ax_aload_n (i := 0) (some o) dM_goOne_0 rfl rfl ?_
  refine ax_aload_n (i := 0) (some o) dM_goOne_1 rfl rfl ?_
  replace hf := bd1_s hf
  obtain ⟨r1, e_r1, hf⟩ := hf
  refine ax_getR fl_1023 rfl dM_goOne_2 e_r1 ?_
  refine ax_iload_n (i := 1) dM_goOne_5 rfl rfl ?_
  replace hf := bd1_s hf
  obtain ⟨a2, e_d, hf⟩ := hf
  subst e_d
  replace hf := bd1_s hf
  obtain ⟨x3, e_x3, hf⟩ := hf
  refine ax_iald dM_goOne_6 e_x3 ?_
  replace hf := bd1_s hf
  obtain ⟨x4, e_x4, hf⟩ := hf
  obtain ⟨k_e_x4, e_x4⟩ := cv_s e_x4
  refine ax_callV (As := [.int x3]) (rest := []) (c_M_worst e_x4) ml_1452 cm_M_worst rfl k_e_x4 (Nat.le_trans (Nat.le_of_ble_eq_true rfl) hR1) (Nat.le_trans (Nat.le_of_ble_eq_true rfl) hR2) rfl rfl (Nat.le_of_ble_eq_true rfl) dM_goOne_7 ?_
  refine ax_istore_n (i := 2) [some (va_rf (some o)), some (.int p1), some (.int x4), none] dM_goOne_10 rfl (Nat.le_of_ble_eq_true rfl) (Or.inr (c1i rfl)) rfl ?_
  refine ax_aload_n (i := 0) (some o) dM_goOne_11 rfl rfl ?_
  refine ax_aload_n (i := 0) (some o) dM_goOne_12 rfl rfl ?_
  replace hf := bd1_s hf
  obtain ⟨x5, e_x5, hf⟩ := hf
  refine ax_getI fl_1064 rfl dM_goOne_13 e_x5 ?_
  refine ax_aload_n (i := 0) (some o) dM_goOne_16 rfl rfl ?_
  replace hf := bd1_s hf
  obtain ⟨r6, e_r6, hf⟩ := hf
  refine ax_getR fl_1025 rfl dM_goOne_17 e_r6 ?_
  refine ax_iload_n (i := 1) dM_goOne_20 rfl rfl ?_
  replace hf := bd1_s hf
  obtain ⟨a7, e_d, hf⟩ := hf
  subst e_d
  replace hf := bd1_s hf
  obtain ⟨x8, e_x8, hf⟩ := hf
  refine ax_iald dM_goOne_21 e_x8 ?_
  refine ax_iconst (-1 : Int32) dM_goOne_22 k32_m1 ?_
  refine ax_ixor dM_goOne_23 ?_
  refine ax_iand dM_goOne_24 ?_
  refine ax_aload_n (i := 0) (some o) dM_goOne_25 rfl rfl ?_
  replace hf := bd1_s hf
  obtain ⟨r9, e_r9, hf⟩ := hf
  refine ax_getR fl_1024 rfl dM_goOne_26 e_r9 ?_
  refine ax_iload_n (i := 1) dM_goOne_29 rfl rfl ?_
  replace hf := bd1_s hf
  obtain ⟨a10, e_d, hf⟩ := hf
  subst e_d
  replace hf := bd1_s hf
  obtain ⟨x11, e_x11, hf⟩ := hf
  refine ax_iald dM_goOne_30 e_x11 ?_
  refine ax_ior dM_goOne_31 ?_
  replace hf := bd1_s hf
  obtain ⟨h12, e_h12, hf⟩ := hf
  refine ax_putI fw_1064 rfl rfl dM_goOne_32 e_h12 ?_
  refine ax_iconst (0 : Int32) dM_goOne_35 k32_0 ?_
  refine ax_istore_n (i := 3) [some (va_rf (some o)), some (.int p1), some (.int x4), some (.int (0 : Int32))] dM_goOne_36 rfl (Nat.le_of_ble_eq_true rfl) (Or.inr (c1i rfl)) rfl ?_
  refine w_M_goOne_L37 hR1 hR2 Hr FU (0 : Int32) h12 hf
theorem c_M_goOne {l : Launch} {E : EN} {h0 : AH} {o : Nat} {p1 : Int32} {hF : AH} (hf : f_M_goOne h0 o p1 = some hF) : AM l E 2 mi_M_goOne [va_rf (some o), .int p1] h0 none hF :=
  am_of2 [(va_rf (some o), false), (.int p1, false)] 2 ⟨cat_rf _, rfl, trivial⟩ rfl rfl (v_M_goOne (Nat.le_refl _) (Nat.le_refl _) (fun pc L hd => ax_vret rfl hd rfl) hf)
theorem w_M_walkRow_L20 {l : Launch} {E : EN} {R : Room} {B : (Nat × Nat) × (Nat × Nat)} {Qf : QF} {h0 : AH} {ρ : Type} {res : ρ} (hR1 : 3 ≤ R.frames) (hR2 : 192 ≤ R.locals) {y0 : Nat} {y1 : Option Nat} {y2 : Int32} {y4 : Int32} {k : Int32 → Option (ρ)} (hk : ∀ (z5 : Int32), k z5 = some res → AW l E mi_M_walkRow R B Qf 54 [some (va_rf (some y0)), some (va_rf y1), some (.int y2), none, some (.int y4), some (.int z5), none] [] h0) : ∀ (n : Nat) (z5 : Int32) (z6 : Int32), f_M_walkRow_L20 h0 y0 y1 y2 y4 k n z5 z6 = some res → AW l E mi_M_walkRow R B Qf 20 [some (va_rf (some y0)), some (va_rf y1), some (.int y2), none, some (.int y4), some (.int z5), some (.int z6)] [] h0 := by
  intro n
  induction n with
  | zero => intro z5 z6 hf; cases hf
  | succ n ih =>
    intro z5 z6 hf
    rw [f_M_walkRow_L20] at hf
    refine ax_iload (i := 6) dM_walkRow_20 rfl ?_
    refine ax_iload (i := 4) dM_walkRow_22 rfl ?_
    replace hf := ite_c hf
    rcases hf with ⟨hc, hf⟩ | ⟨hc, hf⟩
    · refine ax_icmp_geF 54 dM_walkRow_24 (by decide) hc ?_
      refine ax_iload (i := 5) dM_walkRow_27 rfl ?_
      refine ax_aload_n (i := 1) y1 dM_walkRow_29 rfl rfl ?_
      refine ax_iload (i := 6) dM_walkRow_30 rfl ?_
      replace hf := bd1_s hf
      obtain ⟨a2, e_d, hf⟩ := hf
      subst e_d
      replace hf := bd1_s hf
      obtain ⟨x3, e_x3, hf⟩ := hf
      refine ax_iald dM_walkRow_32 e_x3 ?_
      refine ax_aload_n (i := 1) (some a2) dM_walkRow_33 rfl rfl ?_
      refine ax_iload (i := 4) dM_walkRow_34 rfl ?_
      replace hf := bd1_s hf
      obtain ⟨x4, e_x4, hf⟩ := hf
      refine ax_iald dM_walkRow_36 e_x4 ?_
      replace hf := bd1_s hf
      obtain ⟨x5, hT, hf⟩ := hf
      have K : AW l E mi_M_walkRow R B Qf 45 [some (va_rf (some y0)), some (va_rf (some a2)), some (.int y2), none, some (.int y4), none, some (.int z6)] [.int x5, .int z5] h0 := by
        clear hT
        refine ax_iadd dM_walkRow_45 ?_
        replace hf := bd1_s hf
        obtain ⟨x6, e_x6, hf⟩ := hf
        refine ax_nmI (Option.some.inj e_x6) ?_
        refine ax_istore (i := 5) [some (va_rf (some y0)), some (va_rf (some a2)), some (.int y2), none, some (.int y4), some (.int x6), some (.int z6)] dM_walkRow_46 (Nat.le_of_ble_eq_true rfl) (Or.inr (c1i rfl)) rfl ?_
        refine ax_iinc (i := 6) (z6 + (1 : Int32)) [some (va_rf (some y0)), some (va_rf (some a2)), some (.int y2), none, some (.int y4), some (.int x6), some (.int (z6 + (1 : Int32)))] dM_walkRow_48 rfl (iic k32_1) (Or.inr (c1i rfl)) rfl ?_
        refine ax_goto 20 dM_walkRow_51 (by decide) ?_
        exact ih x6 (z6 + (1 : Int32)) hf
      replace hf := hT
      clear hT
      replace hf := ite_c hf
      rcases hf with ⟨hc, hf⟩ | ⟨hc, hf⟩
      · refine ax_icmp_neF 44 dM_walkRow_37 (by decide) hc ?_
        refine ax_iconst (1 : Int32) dM_walkRow_40 k32_1 ?_
        refine ax_goto 45 dM_walkRow_41 (by decide) ?_
        refine ax_mask [true, true, true, true, true, false, true] rfl [some (va_rf (some y0)), some (va_rf (some a2)), some (.int y2), none, some (.int y4), none, some (.int z6)] rfl ?_
        cases hf
        exact K
      · refine ax_icmp_neT 44 dM_walkRow_37 (by decide) hc ?_
        refine ax_iconst (0 : Int32) dM_walkRow_44 k32_0 ?_
        refine ax_mask [true, true, true, true, true, false, true] rfl [some (va_rf (some y0)), some (va_rf (some a2)), some (.int y2), none, some (.int y4), none, some (.int z6)] rfl ?_
        cases hf
        exact K
    · refine ax_icmp_geT 54 dM_walkRow_24 (by decide) hc ?_
      refine ax_mask [true, true, true, true, true, true, false] rfl [some (va_rf (some y0)), some (va_rf y1), some (.int y2), none, some (.int y4), some (.int z5), none] rfl ?_
      exact hk z5 hf
theorem w_M_walkRow_L8 {l : Launch} {E : EN} {R : Room} {B : (Nat × Nat) × (Nat × Nat)} {Qf : QF} {r : Int32} {hF : AH} (hR1 : 3 ≤ R.frames) (hR2 : 192 ≤ R.locals) (Hr : ∀ (pc : Nat) (L : List (Option Value)), decode mi_M_walkRow.2.1 pc = .ok (.ireturn, 1) → AW l E mi_M_walkRow R B Qf pc L [.int r] hF) {y0 : Nat} {y1 : Option Nat} {y2 : Int32} : ∀ (n : Nat) (z4 : Int32) (h : AH), f_M_walkRow_L8 y0 y1 y2 n z4 h = some (r, hF) → AW l E mi_M_walkRow R B Qf 8 [some (va_rf (some y0)), some (va_rf y1), some (.int y2), none, some (.int z4), none, none] [] h := by
  intro n
  induction n with
  | zero => intro z4 h hf; cases hf
  | succ n ih =>
    intro z4 h hf
    rw [f_M_walkRow_L8] at hf
    refine ax_iload (i := 4) dM_walkRow_8 rfl ?_
    refine ax_iload_n (i := 2) dM_walkRow_10 rfl rfl ?_
    replace hf := ite_c hf
    rcases hf with ⟨hc, hf⟩ | ⟨hc, hf⟩
    · refine ax_icmp_geF 100 dM_walkRow_11 (by decide) hc ?_
      refine ax_iconst (0 : Int32) dM_walkRow_14 k32_0 ?_
      refine ax_istore (i := 5) [some (va_rf (some y0)), some (va_rf y1), some (.int y2), none, some (.int z4), some (.int (0 : Int32)), none] dM_walkRow_15 (Nat.le_of_ble_eq_true rfl) (Or.inr (c1i rfl)) rfl ?_
      refine ax_iconst (0 : Int32) dM_walkRow_17 k32_0 ?_
      refine ax_istore (i := 6) [some (va_rf (some y0)), some (va_rf y1), some (.int y2), none, some (.int z4), some (.int (0 : Int32)), some (.int (0 : Int32))] dM_walkRow_18 (Nat.le_of_ble_eq_true rfl) (Or.inr (c1i rfl)) rfl ?_
      refine w_M_walkRow_L20 hR1 hR2 (fun x7 hf => ?_) FU (0 : Int32) (0 : Int32) hf
      refine ax_iload (i := 5) dM_walkRow_54 rfl ?_
      refine ax_aload_n (i := 0) (some y0) dM_walkRow_56 rfl rfl ?_
      replace hf := bd1_s hf
      obtain ⟨r8, e_r8, hf⟩ := hf
      refine ax_getR fl_1026 rfl dM_walkRow_57 e_r8 ?_
      refine ax_iconst (5 : Int32) dM_walkRow_60 k32_5 ?_
      refine ax_aload_n (i := 1) y1 dM_walkRow_61 rfl rfl ?_
      refine ax_iload (i := 4) dM_walkRow_62 rfl ?_
      replace hf := bd1_s hf
      obtain ⟨a9, e_d, hf⟩ := hf
      subst e_d
      replace hf := bd1_s hf
      obtain ⟨x10, e_x10, hf⟩ := hf
      refine ax_iald dM_walkRow_64 e_x10 ?_
      refine ax_imul dM_walkRow_65 ?_
      refine ax_iconst (2 : Int32) dM_walkRow_66 k32_2 ?_
      refine ax_iadd dM_walkRow_67 ?_
      replace hf := bd1_s hf
      obtain ⟨a11, e_d, hf⟩ := hf
      subst e_d
      replace hf := bd1_s hf
      obtain ⟨x12, e_x12, hf⟩ := hf
      refine ax_iald dM_walkRow_68 e_x12 ?_
      replace hf := ite_c hf
      rcases hf with ⟨hc, hf⟩ | ⟨hc, hf⟩
      · refine ax_icmp_geF 83 dM_walkRow_69 (by decide) hc ?_
        refine ax_aload_n (i := 0) (some y0) dM_walkRow_72 rfl rfl ?_
        refine ax_aload_n (i := 1) (some a9) dM_walkRow_73 rfl rfl ?_
        refine ax_iload (i := 4) dM_walkRow_74 rfl ?_
        replace hf := bd1_s hf
        obtain ⟨x13, e_x13, hf⟩ := hf
        refine ax_iald dM_walkRow_76 e_x13 ?_
        replace hf := bd1_s hf
        obtain ⟨x14, e_x14, hf⟩ := hf
        obtain ⟨k_e_x14, e_x14⟩ := cv_s e_x14
        refine ax_callV (As := [.int x13]) (rest := []) (c_M_mayGo e_x14) ml_1448 cm_M_mayGo rfl k_e_x14 (Nat.le_trans (Nat.le_of_ble_eq_true rfl) hR1) (Nat.le_trans (Nat.le_of_ble_eq_true rfl) hR2) rfl rfl (Nat.le_of_ble_eq_true rfl) dM_walkRow_77 ?_
        replace hf := ite_c hf
        rcases hf with ⟨hc, hf⟩ | ⟨hc, hf⟩
        · refine ax_if_neF 86 dM_walkRow_80 (by decide) hc ?_
          refine ax_iload (i := 4) dM_walkRow_83 rfl ?_
          cases hf
          exact Hr _ _ dM_walkRow_85
        · refine ax_if_neT 86 dM_walkRow_80 (by decide) hc ?_
          refine ax_aload_n (i := 0) (some y0) dM_walkRow_86 rfl rfl ?_
          refine ax_aload_n (i := 1) (some a9) dM_walkRow_87 rfl rfl ?_
          refine ax_iload (i := 4) dM_walkRow_88 rfl ?_
          replace hf := bd1_s hf
          obtain ⟨x15, e_x15, hf⟩ := hf
          refine ax_iald dM_walkRow_90 e_x15 ?_
          replace hf := bd1_s hf
          obtain ⟨h16, e_h16, hf⟩ := hf
          obtain ⟨k_e_h16, e_h16⟩ := cv_s e_h16
          refine ax_callV (As := [.int x15]) (rest := []) (c_M_goOne e_h16) ml_1456 cm_M_goOne rfl k_e_h16 (Nat.le_trans (Nat.le_of_ble_eq_true rfl) hR1) (Nat.le_trans (Nat.le_of_ble_eq_true rfl) hR2) rfl rfl (Nat.le_of_ble_eq_true rfl) dM_walkRow_91 ?_
          refine ax_iinc (i := 4) (z4 + (1 : Int32)) [some (va_rf (some y0)), some (va_rf (some a9)), some (.int y2), none, some (.int (z4 + (1 : Int32))), some (.int x7), none] dM_walkRow_94 rfl (iic k32_1) (Or.inr (c1n rfl)) rfl ?_
          refine ax_goto 8 dM_walkRow_97 (by decide) ?_
          refine ax_mask [true, true, true, true, true, false, true] rfl [some (va_rf (some y0)), some (va_rf (some a9)), some (.int y2), none, some (.int (z4 + (1 : Int32))), none, none] rfl ?_
          exact ih (z4 + (1 : Int32)) h16 hf
      · refine ax_icmp_geT 83 dM_walkRow_69 (by decide) hc ?_
        refine ax_iload (i := 4) dM_walkRow_83 rfl ?_
        cases hf
        exact Hr _ _ dM_walkRow_85
    · refine ax_icmp_geT 100 dM_walkRow_11 (by decide) hc ?_
      refine ax_iconst (-1 : Int32) dM_walkRow_100 k32_m1 ?_
      cases hf
      exact Hr _ _ dM_walkRow_101
theorem v_M_walkRow {l : Launch} {E : EN} {R : Room} {B : (Nat × Nat) × (Nat × Nat)} {Qf : QF} {h0 : AH} {o : Nat} {p1 : Option Nat} {p2 : Int32} {p3 : Int32} {r : Int32} {hF : AH} (hR1 : 3 ≤ R.frames) (hR2 : 192 ≤ R.locals) (Hr : ∀ (pc : Nat) (L : List (Option Value)), decode mi_M_walkRow.2.1 pc = .ok (.ireturn, 1) → AW l E mi_M_walkRow R B Qf pc L [.int r] hF) (hf : f_M_walkRow h0 o p1 p2 p3 = some (r, hF)) : AW l E mi_M_walkRow R B Qf 0 [some (va_rf (some o)), some (va_rf p1), some (.int p2), some (.int p3), none, none, none] [] h0 := by
  unfold f_M_walkRow at hf
  refine ax_aload_n (i := 0) (some o) dM_walkRow_0 rfl rfl ?_
  refine ax_iload_n (i := 3) dM_walkRow_1 rfl rfl ?_
  replace hf := bd1_s hf
  obtain ⟨h1, e_h1, hf⟩ := hf
  obtain ⟨k_e_h1, e_h1⟩ := cv_s e_h1
  refine ax_callV (As := [.int p3]) (rest := []) (c_M_start e_h1) ml_1444 cm_M_start rfl k_e_h1 (Nat.le_trans (Nat.le_of_ble_eq_true rfl) hR1) (Nat.le_trans (Nat.le_of_ble_eq_true rfl) hR2) rfl rfl (Nat.le_of_ble_eq_true rfl) dM_walkRow_2 ?_
  refine ax_iconst (0 : Int32) dM_walkRow_5 k32_0 ?_
  refine ax_istore (i := 4) [some (va_rf (some o)), some (va_rf p1), some (.int p2), some (.int p3), some (.int (0 : Int32)), none, none] dM_walkRow_6 (Nat.le_of_ble_eq_true rfl) (Or.inr (c1i rfl)) rfl ?_
  refine ax_mask [true, true, true, false, true, true, true] rfl [some (va_rf (some o)), some (va_rf p1), some (.int p2), none, some (.int (0 : Int32)), none, none] rfl ?_
  refine w_M_walkRow_L8 hR1 hR2 Hr FU (0 : Int32) h1 hf
theorem c_M_walkRow {l : Launch} {E : EN} {h0 : AH} {o : Nat} {p1 : Option Nat} {p2 : Int32} {p3 : Int32} {r : Int32} {hF : AH} (hf : f_M_walkRow h0 o p1 p2 p3 = some (r, hF)) : AM l E 3 mi_M_walkRow [va_rf (some o), va_rf p1, .int p2, .int p3] h0 (some (.int r)) hF :=
  am_of2 [(va_rf (some o), false), (va_rf p1, false), (.int p2, false), (.int p3, false)] 3 ⟨cat_rf _, cat_rf _, rfl, rfl, trivial⟩ rfl rfl (v_M_walkRow (Nat.le_refl _) (Nat.le_refl _) (fun pc L hd => ax_iret rfl hd rfl) hf)
theorem v_M_stops {l : Launch} {E : EN} {R : Room} {B : (Nat × Nat) × (Nat × Nat)} {Qf : QF} {h0 : AH} {o : Nat} {p1 : Int32} {r : Int32} {hF : AH} (hR1 : 4 ≤ R.frames) (hR2 : 256 ≤ R.locals) (Hr : ∀ (pc : Nat) (L : List (Option Value)), decode mi_M_stops.2.1 pc = .ok (.ireturn, 1) → AW l E mi_M_stops R B Qf pc L [.int r] hF) (hf : f_M_stops h0 o p1 = some (r, hF)) : AW l E mi_M_stops R B Qf 0 [some (va_rf (some o)), some (.int p1)] [] h0 := by
  unfold f_M_stops at hf
  refine ax_iload_n (i := 1) dM_stops_0 rfl rfl ?_
  replace hf := bd1_s hf
  obtain ⟨x1, e_x1, hf⟩ := hf
  refine ax_callS (As := [.int p1]) (rest := []) (c_M_isSet e_x1) ml_1401 cm_M_isSet (Nat.le_trans (Nat.le_of_ble_eq_true rfl) hR1) (Nat.le_trans (Nat.le_of_ble_eq_true rfl) hR2) rfl rfl (Nat.le_of_ble_eq_true rfl) dM_stops_1 ?_
  replace hf := ite_c hf
  rcases hf with ⟨hc, hf⟩ | ⟨hc, hf⟩
  · refine ax_if_eqT 23 dM_stops_4 (by decide) hc ?_
    refine ax_bipush (-102 : Int32) dM_stops_23 k8_m102 ?_
    cases hf
    exact Hr _ _ dM_stops_25
  · refine ax_if_eqF 23 dM_stops_4 (by decide) hc ?_
    refine ax_aload_n (i := 0) (some o) dM_stops_7 rfl rfl ?_
    refine ax_aload_n (i := 0) (some o) dM_stops_8 rfl rfl ?_
    replace hf := bd1_s hf
    obtain ⟨r2, e_r2, hf⟩ := hf
    refine ax_getR fl_1029 rfl dM_stops_9 e_r2 ?_
    refine ax_aload_n (i := 0) (some o) dM_stops_12 rfl rfl ?_
    replace hf := bd1_s hf
    obtain ⟨x3, e_x3, hf⟩ := hf
    refine ax_getI fl_1028 rfl dM_stops_13 e_x3 ?_
    refine ax_iload_n (i := 1) dM_stops_16 rfl rfl ?_
    replace hf := bd2_s hf
    obtain ⟨x4, h5, e_x4, hf⟩ := hf
    obtain ⟨k_e_x4, e_x4⟩ := cv_s e_x4
    refine ax_callV (As := [va_rf r2, .int x3, .int p1]) (rest := []) (c_M_walkRow e_x4) ml_1440 cm_M_walkRow rfl k_e_x4 (Nat.le_trans (Nat.le_of_ble_eq_true rfl) hR1) (Nat.le_trans (Nat.le_of_ble_eq_true rfl) hR2) rfl rfl (Nat.le_of_ble_eq_true rfl) dM_stops_17 ?_
    refine ax_goto 25 dM_stops_20 (by decide) ?_
    cases hf
    exact Hr _ _ dM_stops_25
theorem c_M_stops {l : Launch} {E : EN} {h0 : AH} {o : Nat} {p1 : Int32} {r : Int32} {hF : AH} (hf : f_M_stops h0 o p1 = some (r, hF)) : AM l E 4 mi_M_stops [va_rf (some o), .int p1] h0 (some (.int r)) hF :=
  am_of2 [(va_rf (some o), false), (.int p1, false)] 0 ⟨cat_rf _, rfl, trivial⟩ rfl rfl (v_M_stops (Nat.le_refl _) (Nat.le_refl _) (fun pc L hd => ax_iret rfl hd rfl) hf)
theorem v_M_after {l : Launch} {E : EN} {R : Room} {B : (Nat × Nat) × (Nat × Nat)} {Qf : QF} {h0 : AH} {o : Nat} {p1 : Int32} {r : Int32} {hF : AH} (hR1 : 4 ≤ R.frames) (hR2 : 256 ≤ R.locals) (Hr : ∀ (pc : Nat) (L : List (Option Value)), decode mi_M_after.2.1 pc = .ok (.ireturn, 1) → AW l E mi_M_after R B Qf pc L [.int r] hF) (hf : f_M_after h0 o p1 = some (r, hF)) : AW l E mi_M_after R B Qf 0 [some (va_rf (some o)), some (.int p1)] [] h0 := by
  unfold f_M_after at hf
  refine ax_iload_n (i := 1) dM_after_0 rfl rfl ?_
  replace hf := bd1_s hf
  obtain ⟨x1, e_x1, hf⟩ := hf
  refine ax_callS (As := [.int p1]) (rest := []) (c_M_isSet e_x1) ml_1401 cm_M_isSet (Nat.le_trans (Nat.le_of_ble_eq_true rfl) hR1) (Nat.le_trans (Nat.le_of_ble_eq_true rfl) hR2) rfl rfl (Nat.le_of_ble_eq_true rfl) dM_after_1 ?_
  replace hf := ite_c hf
  rcases hf with ⟨hc, hf⟩ | ⟨hc, hf⟩
  · refine ax_if_neF 10 dM_after_4 (by decide) hc ?_
    refine ax_bipush (-102 : Int32) dM_after_7 k8_m102 ?_
    cases hf
    exact Hr _ _ dM_after_9
  · refine ax_if_neT 10 dM_after_4 (by decide) hc ?_
    refine ax_aload_n (i := 0) (some o) dM_after_10 rfl rfl ?_
    refine ax_aload_n (i := 0) (some o) dM_after_11 rfl rfl ?_
    replace hf := bd1_s hf
    obtain ⟨r2, e_r2, hf⟩ := hf
    refine ax_getR fl_1029 rfl dM_after_12 e_r2 ?_
    refine ax_aload_n (i := 0) (some o) dM_after_15 rfl rfl ?_
    replace hf := bd1_s hf
    obtain ⟨x3, e_x3, hf⟩ := hf
    refine ax_getI fl_1028 rfl dM_after_16 e_x3 ?_
    refine ax_iload_n (i := 1) dM_after_19 rfl rfl ?_
    replace hf := bd2_s hf
    obtain ⟨x4, h5, e_x4, hf⟩ := hf
    obtain ⟨k_e_x4, e_x4⟩ := cv_s e_x4
    refine ax_callV (As := [va_rf r2, .int x3, .int p1]) (rest := []) (c_M_walkRow e_x4) ml_1440 cm_M_walkRow rfl k_e_x4 (Nat.le_trans (Nat.le_of_ble_eq_true rfl) hR1) (Nat.le_trans (Nat.le_of_ble_eq_true rfl) hR2) rfl rfl (Nat.le_of_ble_eq_true rfl) dM_after_20 ?_
    refine ax_iconst (-1 : Int32) dM_after_23 k32_m1 ?_
    replace hf := ite_c hf
    rcases hf with ⟨hc, hf⟩ | ⟨hc, hf⟩
    · refine ax_icmp_neF 34 dM_after_24 (by decide) hc ?_
      refine ax_aload_n (i := 0) (some o) dM_after_27 rfl rfl ?_
      replace hf := bd1_s hf
      obtain ⟨x6, e_x6, hf⟩ := hf
      refine ax_getI fl_1064 rfl dM_after_28 e_x6 ?_
      refine ax_goto 36 dM_after_31 (by decide) ?_
      cases hf
      exact Hr _ _ dM_after_36
    · refine ax_icmp_neT 34 dM_after_24 (by decide) hc ?_
      refine ax_bipush (-103 : Int32) dM_after_34 k8_m103 ?_
      cases hf
      exact Hr _ _ dM_after_36
theorem c_M_after {l : Launch} {E : EN} {h0 : AH} {o : Nat} {p1 : Int32} {r : Int32} {hF : AH} (hf : f_M_after h0 o p1 = some (r, hF)) : AM l E 4 mi_M_after [va_rf (some o), .int p1] h0 (some (.int r)) hF :=
  am_of2 [(va_rf (some o), false), (.int p1, false)] 0 ⟨cat_rf _, rfl, trivial⟩ rfl rfl (v_M_after (Nat.le_refl _) (Nat.le_refl _) (fun pc L hd => ax_iret rfl hd rfl) hf)
theorem v_M_taint {l : Launch} {E : EN} {R : Room} {B : (Nat × Nat) × (Nat × Nat)} {Qf : QF} {h0 : AH} {o : Nat} {p1 : Int32} {p2 : Int32} {r : Int32} {hF : AH} (hR1 : 4 ≤ R.frames) (hR2 : 256 ≤ R.locals) (Hr : ∀ (pc : Nat) (L : List (Option Value)), decode mi_M_taint.2.1 pc = .ok (.ireturn, 1) → AW l E mi_M_taint R B Qf pc L [.int r] hF) (hf : f_M_taint h0 o p1 p2 = some (r, hF)) : AW l E mi_M_taint R B Qf 0 [some (va_rf (some o)), some (.int p1), some (.int p2)] [] h0 := by
  unfold f_M_taint at hf
  refine ax_iload_n (i := 2) dM_taint_0 rfl rfl ?_
  refine ax_iconst (0 : Int32) dM_taint_1 k32_0 ?_
  refine ax_bipush (11 : Int32) dM_taint_2 k8_11 ?_
  replace hf := bd1_s hf
  obtain ⟨x1, e_x1, hf⟩ := hf
  refine ax_callS (As := [.int p2, .int (0 : Int32), .int (11 : Int32)]) (rest := []) (c_M_in e_x1) ml_1215 cm_M_in (Nat.le_trans (Nat.le_of_ble_eq_true rfl) hR1) (Nat.le_trans (Nat.le_of_ble_eq_true rfl) hR2) rfl rfl (Nat.le_of_ble_eq_true rfl) dM_taint_4 ?_
  replace hf := ite_c hf
  rcases hf with ⟨hc, hf⟩ | ⟨hc, hf⟩
  · refine ax_if_neF 13 dM_taint_7 (by decide) hc ?_
    refine ax_bipush (-101 : Int32) dM_taint_10 k8_m101 ?_
    cases hf
    exact Hr _ _ dM_taint_12
  · refine ax_if_neT 13 dM_taint_7 (by decide) hc ?_
    refine ax_iload_n (i := 1) dM_taint_13 rfl rfl ?_
    replace hf := bd1_s hf
    obtain ⟨x2, e_x2, hf⟩ := hf
    refine ax_callS (As := [.int p1]) (rest := []) (c_M_isSet e_x2) ml_1401 cm_M_isSet (Nat.le_trans (Nat.le_of_ble_eq_true rfl) hR1) (Nat.le_trans (Nat.le_of_ble_eq_true rfl) hR2) rfl rfl (Nat.le_of_ble_eq_true rfl) dM_taint_14 ?_
    replace hf := ite_c hf
    rcases hf with ⟨hc, hf⟩ | ⟨hc, hf⟩
    · refine ax_if_neF 23 dM_taint_17 (by decide) hc ?_
      refine ax_bipush (-102 : Int32) dM_taint_20 k8_m102 ?_
      cases hf
      exact Hr _ _ dM_taint_22
    · refine ax_if_neT 23 dM_taint_17 (by decide) hc ?_
      refine ax_aload_n (i := 0) (some o) dM_taint_23 rfl rfl ?_
      refine ax_aload_n (i := 0) (some o) dM_taint_24 rfl rfl ?_
      replace hf := bd1_s hf
      obtain ⟨r3, e_r3, hf⟩ := hf
      refine ax_getR fl_1029 rfl dM_taint_25 e_r3 ?_
      refine ax_aload_n (i := 0) (some o) dM_taint_28 rfl rfl ?_
      replace hf := bd1_s hf
      obtain ⟨x4, e_x4, hf⟩ := hf
      refine ax_getI fl_1028 rfl dM_taint_29 e_x4 ?_
      refine ax_iload_n (i := 1) dM_taint_32 rfl rfl ?_
      replace hf := bd2_s hf
      obtain ⟨x5, h6, e_x5, hf⟩ := hf
      obtain ⟨k_e_x5, e_x5⟩ := cv_s e_x5
      refine ax_callV (As := [va_rf r3, .int x4, .int p1]) (rest := []) (c_M_walkRow e_x5) ml_1440 cm_M_walkRow rfl k_e_x5 (Nat.le_trans (Nat.le_of_ble_eq_true rfl) hR1) (Nat.le_trans (Nat.le_of_ble_eq_true rfl) hR2) rfl rfl (Nat.le_of_ble_eq_true rfl) dM_taint_33 ?_
      refine ax_iconst (-1 : Int32) dM_taint_36 k32_m1 ?_
      replace hf := ite_c hf
      rcases hf with ⟨hc, hf⟩ | ⟨hc, hf⟩
      · refine ax_icmp_eqT 43 dM_taint_37 (by decide) hc ?_
        refine ax_aload_n (i := 0) (some o) dM_taint_43 rfl rfl ?_
        replace hf := bd1_s hf
        obtain ⟨x7, e_x7, hf⟩ := hf
        refine ax_getI fl_1064 rfl dM_taint_44 e_x7 ?_
        refine ax_iload_n (i := 2) dM_taint_47 rfl rfl ?_
        refine ax_ishr dM_taint_48 ?_
        refine ax_iconst (1 : Int32) dM_taint_49 k32_1 ?_
        refine ax_iand dM_taint_50 ?_
        refine ax_iconst (1 : Int32) dM_taint_51 k32_1 ?_
        replace hf := ite_c hf
        rcases hf with ⟨hc, hf⟩ | ⟨hc, hf⟩
        · refine ax_icmp_neF 64 dM_taint_52 (by decide) hc ?_
          refine ax_aload_n (i := 0) (some o) dM_taint_55 rfl rfl ?_
          replace hf := bd1_s hf
          obtain ⟨r8, e_r8, hf⟩ := hf
          refine ax_getR fl_1065 rfl dM_taint_56 e_r8 ?_
          refine ax_iload_n (i := 2) dM_taint_59 rfl rfl ?_
          replace hf := bd1_s hf
          obtain ⟨a9, e_d, hf⟩ := hf
          subst e_d
          replace hf := bd1_s hf
          obtain ⟨x10, e_x10, hf⟩ := hf
          refine ax_iald dM_taint_60 e_x10 ?_
          refine ax_goto 65 dM_taint_61 (by decide) ?_
          cases hf
          exact Hr _ _ dM_taint_65
        · refine ax_icmp_neT 64 dM_taint_52 (by decide) hc ?_
          refine ax_iconst (-1 : Int32) dM_taint_64 k32_m1 ?_
          cases hf
          exact Hr _ _ dM_taint_65
      · refine ax_icmp_eqF 43 dM_taint_37 (by decide) hc ?_
        refine ax_bipush (-103 : Int32) dM_taint_40 k8_m103 ?_
        cases hf
        exact Hr _ _ dM_taint_42
theorem c_M_taint {l : Launch} {E : EN} {h0 : AH} {o : Nat} {p1 : Int32} {p2 : Int32} {r : Int32} {hF : AH} (hf : f_M_taint h0 o p1 p2 = some (r, hF)) : AM l E 4 mi_M_taint [va_rf (some o), .int p1, .int p2] h0 (some (.int r)) hF :=
  am_of2 [(va_rf (some o), false), (.int p1, false), (.int p2, false)] 0 ⟨cat_rf _, rfl, rfl, trivial⟩ rfl rfl (v_M_taint (Nat.le_refl _) (Nat.le_refl _) (fun pc L hd => ax_iret rfl hd rfl) hf)
theorem w_M_pricesOf_L5 {l : Launch} {E : EN} {R : Room} {B : (Nat × Nat) × (Nat × Nat)} {Qf : QF} {h0 : AH} {r : Int32} (hR1 : 1 ≤ R.frames) (hR2 : 64 ≤ R.locals) (Hr : ∀ (pc : Nat) (L : List (Option Value)), decode mi_M_pricesOf.2.1 pc = .ok (.ireturn, 1) → AW l E mi_M_pricesOf R B Qf pc L [.int r] h0) {y0 : Nat} {y1 : Option Nat} {y2 : Int32} : ∀ (n : Nat) (z3 : Int32) (z4 : Int32), f_M_pricesOf_L5 h0 y0 y1 y2 n z3 z4 = some r → AW l E mi_M_pricesOf R B Qf 5 [some (va_rf (some y0)), some (va_rf y1), some (.int y2), some (.int z3), some (.int z4)] [] h0 := by
  intro n
  induction n with
  | zero => intro z3 z4 hf; cases hf
  | succ n ih =>
    intro z3 z4 hf
    rw [f_M_pricesOf_L5] at hf
    refine ax_iload (i := 4) dM_pricesOf_5 rfl ?_
    refine ax_iload_n (i := 2) dM_pricesOf_7 rfl rfl ?_
    replace hf := ite_c hf
    rcases hf with ⟨hc, hf⟩ | ⟨hc, hf⟩
    · refine ax_icmp_geF 31 dM_pricesOf_8 (by decide) hc ?_
      refine ax_iload_n (i := 3) dM_pricesOf_11 rfl rfl ?_
      refine ax_aload_n (i := 0) (some y0) dM_pricesOf_12 rfl rfl ?_
      replace hf := bd1_s hf
      obtain ⟨r1, e_r1, hf⟩ := hf
      refine ax_getR fl_1026 rfl dM_pricesOf_13 e_r1 ?_
      refine ax_iconst (5 : Int32) dM_pricesOf_16 k32_5 ?_
      refine ax_aload_n (i := 1) y1 dM_pricesOf_17 rfl rfl ?_
      refine ax_iload (i := 4) dM_pricesOf_18 rfl ?_
      replace hf := bd1_s hf
      obtain ⟨a2, e_d, hf⟩ := hf
      subst e_d
      replace hf := bd1_s hf
      obtain ⟨x3, e_x3, hf⟩ := hf
      refine ax_iald dM_pricesOf_20 e_x3 ?_
      refine ax_imul dM_pricesOf_21 ?_
      replace hf := bd1_s hf
      obtain ⟨a4, e_d, hf⟩ := hf
      subst e_d
      replace hf := bd1_s hf
      obtain ⟨x5, e_x5, hf⟩ := hf
      refine ax_iald dM_pricesOf_22 e_x5 ?_
      refine ax_iadd dM_pricesOf_23 ?_
      replace hf := bd1_s hf
      obtain ⟨x6, e_x6, hf⟩ := hf
      refine ax_nmI (Option.some.inj e_x6) ?_
      refine ax_istore_n (i := 3) [some (va_rf (some y0)), some (va_rf (some a2)), some (.int y2), some (.int x6), some (.int z4)] dM_pricesOf_24 rfl (Nat.le_of_ble_eq_true rfl) (Or.inr (c1i rfl)) rfl ?_
      refine ax_iinc (i := 4) (z4 + (1 : Int32)) [some (va_rf (some y0)), some (va_rf (some a2)), some (.int y2), some (.int x6), some (.int (z4 + (1 : Int32)))] dM_pricesOf_25 rfl (iic k32_1) (Or.inr (c1i rfl)) rfl ?_
      refine ax_goto 5 dM_pricesOf_28 (by decide) ?_
      exact ih x6 (z4 + (1 : Int32)) hf
    · refine ax_icmp_geT 31 dM_pricesOf_8 (by decide) hc ?_
      refine ax_iload_n (i := 3) dM_pricesOf_31 rfl rfl ?_
      cases hf
      exact Hr _ _ dM_pricesOf_32
theorem v_M_pricesOf {l : Launch} {E : EN} {R : Room} {B : (Nat × Nat) × (Nat × Nat)} {Qf : QF} {h0 : AH} {o : Nat} {p1 : Option Nat} {p2 : Int32} {r : Int32} (hR1 : 1 ≤ R.frames) (hR2 : 64 ≤ R.locals) (Hr : ∀ (pc : Nat) (L : List (Option Value)), decode mi_M_pricesOf.2.1 pc = .ok (.ireturn, 1) → AW l E mi_M_pricesOf R B Qf pc L [.int r] h0) (hf : f_M_pricesOf h0 o p1 p2 = some r) : AW l E mi_M_pricesOf R B Qf 0 [some (va_rf (some o)), some (va_rf p1), some (.int p2), none, none] [] h0 := by
  unfold f_M_pricesOf at hf
  refine ax_iconst (0 : Int32) dM_pricesOf_0 k32_0 ?_
  refine ax_istore_n (i := 3) [some (va_rf (some o)), some (va_rf p1), some (.int p2), some (.int (0 : Int32)), none] dM_pricesOf_1 rfl (Nat.le_of_ble_eq_true rfl) (Or.inr (c1i rfl)) rfl ?_
  refine ax_iconst (0 : Int32) dM_pricesOf_2 k32_0 ?_
  refine ax_istore (i := 4) [some (va_rf (some o)), some (va_rf p1), some (.int p2), some (.int (0 : Int32)), some (.int (0 : Int32))] dM_pricesOf_3 (Nat.le_of_ble_eq_true rfl) (Or.inr (c1i rfl)) rfl ?_
  refine w_M_pricesOf_L5 hR1 hR2 Hr FU (0 : Int32) (0 : Int32) hf
theorem c_M_pricesOf {l : Launch} {E : EN} {h0 : AH} {o : Nat} {p1 : Option Nat} {p2 : Int32} {r : Int32} (hf : f_M_pricesOf h0 o p1 p2 = some r) : AM l E 1 mi_M_pricesOf [va_rf (some o), va_rf p1, .int p2] h0 (some (.int r)) h0 :=
  am_of2 [(va_rf (some o), false), (va_rf p1, false), (.int p2, false)] 2 ⟨cat_rf _, cat_rf _, rfl, trivial⟩ rfl rfl (v_M_pricesOf (Nat.le_refl _) (Nat.le_refl _) (fun pc L hd => ax_iret rfl hd rfl) hf)
theorem v_M_costs {l : Launch} {E : EN} {R : Room} {B : (Nat × Nat) × (Nat × Nat)} {Qf : QF} {h0 : AH} {o : Nat} {r : Int32} (hR1 : 2 ≤ R.frames) (hR2 : 128 ≤ R.locals) (Hr : ∀ (pc : Nat) (L : List (Option Value)), decode mi_M_costs.2.1 pc = .ok (.ireturn, 1) → AW l E mi_M_costs R B Qf pc L [.int r] h0) (hf : f_M_costs h0 o = some r) : AW l E mi_M_costs R B Qf 0 [some (va_rf (some o))] [] h0 := by
  unfold f_M_costs at hf
  refine ax_aload_n (i := 0) (some o) dM_costs_0 rfl rfl ?_
  refine ax_aload_n (i := 0) (some o) dM_costs_1 rfl rfl ?_
  replace hf := bd1_s hf
  obtain ⟨r1, e_r1, hf⟩ := hf
  refine ax_getR fl_1029 rfl dM_costs_2 e_r1 ?_
  refine ax_aload_n (i := 0) (some o) dM_costs_5 rfl rfl ?_
  replace hf := bd1_s hf
  obtain ⟨x2, e_x2, hf⟩ := hf
  refine ax_getI fl_1028 rfl dM_costs_6 e_x2 ?_
  replace hf := bd1_s hf
  obtain ⟨x3, e_x3, hf⟩ := hf
  obtain ⟨k_e_x3, e_x3⟩ := cv_s e_x3
  refine ax_callV (As := [va_rf r1, .int x2]) (rest := []) (c_M_pricesOf e_x3) ml_1472 cm_M_pricesOf rfl k_e_x3 (Nat.le_trans (Nat.le_of_ble_eq_true rfl) hR1) (Nat.le_trans (Nat.le_of_ble_eq_true rfl) hR2) rfl rfl (Nat.le_of_ble_eq_true rfl) dM_costs_9 ?_
  cases hf
  exact Hr _ _ dM_costs_12
theorem c_M_costs {l : Launch} {E : EN} {h0 : AH} {o : Nat} {r : Int32} (hf : f_M_costs h0 o = some r) : AM l E 2 mi_M_costs [va_rf (some o)] h0 (some (.int r)) h0 :=
  am_of2 [(va_rf (some o), false)] 0 ⟨cat_rf _, trivial⟩ rfl rfl (v_M_costs (Nat.le_refl _) (Nat.le_refl _) (fun pc L hd => ax_iret rfl hd rfl) hf)
