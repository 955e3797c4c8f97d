theorem w_Ro_tryFrom_L79 {l : Launch} {E : EN} {R : Room} {B : (Nat × Nat) × (Nat × Nat)} {Qf : QF} {hF : AH} {dr : Nat} (hR1 : 5 ≤ R.frames) (hR2 : 320 ≤ R.locals) (hr1 : dr + 1 ≤ R.frames) (hr2 : 8 + (4 + 11) + 64 * dr ≤ R.locals) (Hr : ∀ (pc : Nat) (L : List (Option Value)), decode mi_Ro_tryFrom.2.1 pc = .ok (.return_, 1) → AW l E mi_Ro_tryFrom R B Qf pc L [] hF) {rec : AH → Nat → Int32 → Int32 → Option (AH)} (hrec : ∀ (h : AH) (o : Nat) (q0 : Int32) (q1 : Int32) (h' : AH), rec h o q0 q1 = some h' → AM l E dr mi_Ro_tryFrom [va_rf (some o), .int q0, .int q1] h none h') {y0 : Nat} {y1 : Int32} {y2 : Int32} : ∀ (n : Nat) (z3 : Int32) (h : AH), f_Ro_tryFrom_L79 rec y0 y1 y2 n z3 h = some hF → AW l E mi_Ro_tryFrom R B Qf 79 [some (va_rf (some y0)), some (.int y1), some (.int y2), some (.int z3)] [] h := by
  intro n
  induction n with
  | zero => intro z3 h hf; cases hf
  | succ n ih =>
    intro z3 h hf
    rw [f_Ro_tryFrom_L79] at hf
    refine ax_iload_n (i := 3) dRo_tryFrom_79 rfl rfl ?_
    refine ax_aload_n (i := 0) (some y0) dRo_tryFrom_80 rfl rfl ?_
    replace hf := bd1_s hf
    obtain ⟨x8, e_x8, hf⟩ := hf
    refine ax_getI fl_238 rfl dRo_tryFrom_81 e_x8 ?_
    replace hf := ite_c hf
    rcases hf with ⟨hc, hf⟩ | ⟨hc, hf⟩
    · refine ax_icmp_geF 153 dRo_tryFrom_84 (by decide) hc ?_
      refine ax_iload_n (i := 1) dRo_tryFrom_87 rfl rfl ?_
      refine ax_aload_n (i := 0) (some y0) dRo_tryFrom_88 rfl rfl ?_
      replace hf := bd1_s hf
      obtain ⟨x9, e_x9, hf⟩ := hf
      refine ax_getI fl_253 rfl dRo_tryFrom_89 e_x9 ?_
      replace hf := ite_c hf
      rcases hf with ⟨hc, hf⟩ | ⟨hc, hf⟩
      · refine ax_icmp_geF 153 dRo_tryFrom_92 (by decide) hc ?_
        refine ax_aload_n (i := 0) (some y0) dRo_tryFrom_95 rfl rfl ?_
        replace hf := bd1_s hf
        obtain ⟨r10, e_r10, hf⟩ := hf
        refine ax_getR fl_246 rfl dRo_tryFrom_96 e_r10 ?_
        refine ax_iload_n (i := 1) dRo_tryFrom_99 rfl rfl ?_
        replace hf := bd1_s hf
        obtain ⟨a11, e_d, hf⟩ := hf
        subst e_d
        replace hf := bd1_s hf
        obtain ⟨r12, e_r12, hf⟩ := hf
        refine ax_aald (c := 3) (by decide) rfl rfl dRo_tryFrom_100 e_r12 ?_
        refine ax_aload_n (i := 0) (some y0) dRo_tryFrom_101 rfl rfl ?_
        replace hf := bd1_s hf
        obtain ⟨r13, e_r13, hf⟩ := hf
        refine ax_getR fl_236 rfl dRo_tryFrom_102 e_r13 ?_
        refine ax_iload_n (i := 3) dRo_tryFrom_105 rfl rfl ?_
        replace hf := bd1_s hf
        obtain ⟨a14, e_d, hf⟩ := hf
        subst e_d
        replace hf := bd1_s hf
        obtain ⟨r15, e_r15, hf⟩ := hf
        refine ax_aald (c := 4) (by decide) rfl rfl dRo_tryFrom_106 e_r15 ?_
        refine ax_iload_n (i := 3) dRo_tryFrom_107 rfl rfl ?_
        replace hf := bd1_s hf
        obtain ⟨a16, e_d, hf⟩ := hf
        subst e_d
        replace hf := bd1_s hf
        obtain ⟨x17, e_x17, hf⟩ := hf
        obtain ⟨k_e_x17, e_x17⟩ := cv_s e_x17
        refine ax_callV (As := [va_rf r15, .int z3]) (rest := []) (c_Go_may e_x17) ml_768 cm_Go_may rfl k_e_x17 (Nat.le_trans (Nat.le_of_ble_eq_true rfl) hR1) (Nat.le_trans (Nat.le_of_ble_eq_true rfl) hR2) rfl rfl (Nat.le_of_ble_eq_true rfl) dRo_tryFrom_108 ?_
        replace hf := ite_c hf
        rcases hf with ⟨hc, hf⟩ | ⟨hc, hf⟩
        · refine ax_if_eqT 147 dRo_tryFrom_111 (by decide) hc ?_
          refine ax_iinc (i := 3) (z3 + (1 : Int32)) [some (va_rf (some y0)), some (.int y1), some (.int y2), some (.int (z3 + (1 : Int32)))] dRo_tryFrom_147 rfl (iic k32_1) (Or.inr (c1i rfl)) rfl ?_
          refine ax_goto 79 dRo_tryFrom_150 (by decide) ?_
          exact ih (z3 + (1 : Int32)) h hf
        · refine ax_if_eqF 147 dRo_tryFrom_111 (by decide) hc ?_
          refine ax_aload_n (i := 0) (some y0) dRo_tryFrom_114 rfl rfl ?_
          replace hf := bd1_s hf
          obtain ⟨r18, e_r18, hf⟩ := hf
          refine ax_getR fl_248 rfl dRo_tryFrom_115 e_r18 ?_
          refine ax_iload_n (i := 1) dRo_tryFrom_118 rfl rfl ?_
          refine ax_iload_n (i := 3) dRo_tryFrom_119 rfl rfl ?_
          replace hf := bd1_s hf
          obtain ⟨a19, e_d, hf⟩ := hf
          subst e_d
          replace hf := bd1_s hf
          obtain ⟨h20, e_h20, hf⟩ := hf
          refine ax_iast dRo_tryFrom_120 e_h20 ?_
          refine ax_aload_n (i := 0) (some y0) dRo_tryFrom_121 rfl rfl ?_
          refine ax_iload_n (i := 1) dRo_tryFrom_122 rfl rfl ?_
          refine ax_iload_n (i := 3) dRo_tryFrom_123 rfl rfl ?_
          replace hf := bd1_s hf
          obtain ⟨h21, e_h21, hf⟩ := hf
          obtain ⟨k_e_h21, e_h21⟩ := cv_s e_h21
          refine ax_callV (As := [.int y1, .int z3]) (rest := []) (c_Ro_goOn e_h21) ml_782 cm_Ro_goOn rfl k_e_h21 (Nat.le_trans (Nat.le_of_ble_eq_true rfl) hR1) (Nat.le_trans (Nat.le_of_ble_eq_true rfl) hR2) rfl rfl (Nat.le_of_ble_eq_true rfl) dRo_tryFrom_124 ?_
          refine ax_aload_n (i := 0) (some y0) dRo_tryFrom_127 rfl rfl ?_
          refine ax_iload_n (i := 1) dRo_tryFrom_128 rfl rfl ?_
          refine ax_iconst (1 : Int32) dRo_tryFrom_129 k32_1 ?_
          refine ax_iadd dRo_tryFrom_130 ?_
          refine ax_iload_n (i := 2) dRo_tryFrom_131 rfl rfl ?_
          refine ax_aload_n (i := 0) (some y0) dRo_tryFrom_132 rfl rfl ?_
          replace hf := bd1_s hf
          obtain ⟨r22, e_r22, hf⟩ := hf
          refine ax_getR fl_236 rfl dRo_tryFrom_133 e_r22 ?_
          refine ax_iload_n (i := 3) dRo_tryFrom_136 rfl rfl ?_
          replace hf := bd1_s hf
          obtain ⟨a23, e_d, hf⟩ := hf
          subst e_d
          replace hf := bd1_s hf
          obtain ⟨r24, e_r24, hf⟩ := hf
          refine ax_aald (c := 4) (by decide) rfl rfl dRo_tryFrom_137 e_r24 ?_
          replace hf := bd1_s hf
          obtain ⟨a25, e_d, hf⟩ := hf
          subst e_d
          replace hf := bd1_s hf
          obtain ⟨r26, e_r26, hf⟩ := hf
          refine ax_getR fl_704 rfl dRo_tryFrom_138 e_r26 ?_
          refine ax_iconst (0 : Int32) dRo_tryFrom_141 k32_0 ?_
          replace hf := bd1_s hf
          obtain ⟨a27, e_d, hf⟩ := hf
          subst e_d
          replace hf := bd1_s hf
          obtain ⟨x28, e_x28, hf⟩ := hf
          refine ax_iald dRo_tryFrom_142 e_x28 ?_
          refine ax_iadd dRo_tryFrom_143 ?_
          replace hf := bd1_s hf
          obtain ⟨h29, e_h29, hf⟩ := hf
          obtain ⟨k_e_h29, e_h29⟩ := cv_s e_h29
          refine ax_callV (As := [.int (y1 + (1 : Int32)), .int (y2 + x28)]) (rest := []) (hrec _ _ _ _ _ e_h29) ml_827 cm_Ro_tryFrom rfl k_e_h29 hr1 hr2 rfl rfl (Nat.le_of_ble_eq_true rfl) dRo_tryFrom_144 ?_
          refine ax_iinc (i := 3) (z3 + (1 : Int32)) [some (va_rf (some y0)), some (.int y1), some (.int y2), some (.int (z3 + (1 : Int32)))] dRo_tryFrom_147 rfl (iic k32_1) (Or.inr (c1i rfl)) rfl ?_
          refine ax_goto 79 dRo_tryFrom_150 (by decide) ?_
          exact ih (z3 + (1 : Int32)) h29 hf
      · refine ax_icmp_geT 153 dRo_tryFrom_92 (by decide) hc ?_
        cases hf
        exact Hr _ _ dRo_tryFrom_153
    · refine ax_icmp_geT 153 dRo_tryFrom_84 (by decide) hc ?_
      cases hf
      exact Hr _ _ dRo_tryFrom_153
theorem v_Ro_tryFrom {l : Launch} {E : EN} {R : Room} {B : (Nat × Nat) × (Nat × Nat)} {Qf : QF} {h0 : AH} {o : Nat} {p1 : Int32} {p2 : Int32} {hF : AH} {dr : Nat} (hR1 : 5 ≤ R.frames) (hR2 : 320 ≤ R.locals) (hr1 : dr + 1 ≤ R.frames) (hr2 : 8 + (4 + 11) + 64 * dr ≤ R.locals) {rec : AH → Nat → Int32 → Int32 → Option (AH)} (hrec : ∀ (h : AH) (o : Nat) (q0 : Int32) (q1 : Int32) (h' : AH), rec h o q0 q1 = some h' → AM l E dr mi_Ro_tryFrom [va_rf (some o), .int q0, .int q1] h none h') (Hr : ∀ (pc : Nat) (L : List (Option Value)), decode mi_Ro_tryFrom.2.1 pc = .ok (.return_, 1) → AW l E mi_Ro_tryFrom R B Qf pc L [] hF) (hf : (
  (gI 8 h0 o 9).bind fun x1 =>
  if x1 = (-1 : Int32) then
    (gI 8 h0 o 11).bind fun x2 =>
    (gR 8 h0 o 5).bind fun r3 =>
    (r3).bind fun a4 =>
    (rR 3 h0 a4 p1).bind fun r5 =>
    (r5).bind fun a6 =>
    (gI 3 h0 a6 0).bind fun x7 =>
    if (x2 &&& (x7 ^^^ (-1 : Int32))) = (0 : Int32) then
      (gR 8 h0 o 7).bind fun r30 =>
      (gR 8 h0 o 8).bind fun r31 =>
      (r30).bind fun a32 =>
      (r31).bind fun a33 =>
      (cpI h0 a32 (0 : Int32) a33 (0 : Int32) p1).bind fun h34 =>
      (pI 8 h34 o 9 p1).bind fun h35 =>
      (pI 8 h35 o 10 p2).bind fun h36 =>
      some h36
    else
      f_Ro_tryFrom_L79 rec o p1 p2 FU (0 : Int32) h0
  else
    (gI 8 h0 o 10).bind fun x37 =>
    if x37 < p2 then
      some h0
    else
      (gI 8 h0 o 10).bind fun x38 =>
      if p2 = x38 then
        (gI 8 h0 o 9).bind fun x52 =>
        if p1 < x52 then
          (gI 8 h0 o 11).bind fun x53 =>
          (gR 8 h0 o 5).bind fun r54 =>
          (r54).bind fun a55 =>
          (rR 3 h0 a55 p1).bind fun r56 =>
          (r56).bind fun a57 =>
          (gI 3 h0 a57 0).bind fun x58 =>
          if (x53 &&& (x58 ^^^ (-1 : Int32))) = (0 : Int32) then
            (gR 8 h0 o 7).bind fun r59 =>
            (gR 8 h0 o 8).bind fun r60 =>
            (r59).bind fun a61 =>
            (r60).bind fun a62 =>
            (cpI h0 a61 (0 : Int32) a62 (0 : Int32) p1).bind fun h63 =>
            (pI 8 h63 o 9 p1).bind fun h64 =>
            (pI 8 h64 o 10 p2).bind fun h65 =>
            some h65
          else
            f_Ro_tryFrom_L79 rec o p1 p2 FU (0 : Int32) h0
        else
          some h0
      else
        (gI 8 h0 o 11).bind fun x39 =>
        (gR 8 h0 o 5).bind fun r40 =>
        (r40).bind fun a41 =>
        (rR 3 h0 a41 p1).bind fun r42 =>
        (r42).bind fun a43 =>
        (gI 3 h0 a43 0).bind fun x44 =>
        if (x39 &&& (x44 ^^^ (-1 : Int32))) = (0 : Int32) then
          (gR 8 h0 o 7).bind fun r45 =>
          (gR 8 h0 o 8).bind fun r46 =>
          (r45).bind fun a47 =>
          (r46).bind fun a48 =>
          (cpI h0 a47 (0 : Int32) a48 (0 : Int32) p1).bind fun h49 =>
          (pI 8 h49 o 9 p1).bind fun h50 =>
          (pI 8 h50 o 10 p2).bind fun h51 =>
          some h51
        else
          f_Ro_tryFrom_L79 rec o p1 p2 FU (0 : Int32) h0
  ) = some hF) : AW l E mi_Ro_tryFrom R B Qf 0 [some (va_rf (some o)), some (.int p1), some (.int p2), none] [] h0 := by
  refine ax_aload_n (i := 0) (some o) dRo_tryFrom_0 rfl rfl ?_
  replace hf := bd1_s hf
  obtain ⟨x1, e_x1, hf⟩ := hf
  refine ax_getI fl_250 rfl dRo_tryFrom_1 e_x1 ?_
  refine ax_iconst (-1 : Int32) dRo_tryFrom_4 k32_m1 ?_
  replace hf := ite_c hf
  rcases hf with ⟨hc, hf⟩ | ⟨hc, hf⟩
  · refine ax_icmp_eqT 33 dRo_tryFrom_5 (by decide) hc ?_
    refine ax_aload_n (i := 0) (some o) dRo_tryFrom_33 rfl rfl ?_
    replace hf := bd1_s hf
    obtain ⟨x2, e_x2, hf⟩ := hf
    refine ax_getI fl_252 rfl dRo_tryFrom_34 e_x2 ?_
    refine ax_aload_n (i := 0) (some o) dRo_tryFrom_37 rfl rfl ?_
    replace hf := bd1_s hf
    obtain ⟨r3, e_r3, hf⟩ := hf
    refine ax_getR fl_246 rfl dRo_tryFrom_38 e_r3 ?_
    refine ax_iload_n (i := 1) dRo_tryFrom_41 rfl rfl ?_
    replace hf := bd1_s hf
    obtain ⟨a4, e_d, hf⟩ := hf
    subst e_d
    replace hf := bd1_s hf
    obtain ⟨r5, e_r5, hf⟩ := hf
    refine ax_aald (c := 3) (by decide) rfl rfl dRo_tryFrom_42 e_r5 ?_
    replace hf := bd1_s hf
    obtain ⟨a6, e_d, hf⟩ := hf
    subst e_d
    replace hf := bd1_s hf
    obtain ⟨x7, e_x7, hf⟩ := hf
    refine ax_getI fl_224 rfl dRo_tryFrom_43 e_x7 ?_
    refine ax_iconst (-1 : Int32) dRo_tryFrom_46 k32_m1 ?_
    refine ax_ixor dRo_tryFrom_47 ?_
    refine ax_iand dRo_tryFrom_48 ?_
    replace hf := ite_c hf
    rcases hf with ⟨hc, hf⟩ | ⟨hc, hf⟩
    · refine ax_if_neF 77 dRo_tryFrom_49 (by decide) hc ?_
      refine ax_aload_n (i := 0) (some o) dRo_tryFrom_52 rfl rfl ?_
      replace hf := bd1_s hf
      obtain ⟨r30, e_r30, hf⟩ := hf
      refine ax_getR fl_248 rfl dRo_tryFrom_53 e_r30 ?_
      refine ax_iconst (0 : Int32) dRo_tryFrom_56 k32_0 ?_
      refine ax_aload_n (i := 0) (some o) dRo_tryFrom_57 rfl rfl ?_
      replace hf := bd1_s hf
      obtain ⟨r31, e_r31, hf⟩ := hf
      refine ax_getR fl_249 rfl dRo_tryFrom_58 e_r31 ?_
      refine ax_iconst (0 : Int32) dRo_tryFrom_61 k32_0 ?_
      refine ax_iload_n (i := 1) dRo_tryFrom_62 rfl rfl ?_
      replace hf := bd1_s hf
      obtain ⟨a32, e_d, hf⟩ := hf
      subst e_d
      replace hf := bd1_s hf
      obtain ⟨a33, e_d, hf⟩ := hf
      subst e_d
      replace hf := bd1_s hf
      obtain ⟨h34, e_h34, hf⟩ := hf
      refine ax_cpI w_831 w_acn w_acs w_sys (Nat.le_trans (Nat.le_of_ble_eq_true rfl) hR1) (Nat.le_trans (Nat.le_of_ble_eq_true rfl) hR2) (Nat.le_of_ble_eq_true rfl) dRo_tryFrom_63 e_h34 ?_
      refine ax_aload_n (i := 0) (some o) dRo_tryFrom_66 rfl rfl ?_
      refine ax_iload_n (i := 1) dRo_tryFrom_67 rfl rfl ?_
      replace hf := bd1_s hf
      obtain ⟨h35, e_h35, hf⟩ := hf
      refine ax_putI fw_250 rfl rfl dRo_tryFrom_68 e_h35 ?_
      refine ax_aload_n (i := 0) (some o) dRo_tryFrom_71 rfl rfl ?_
      refine ax_iload_n (i := 2) dRo_tryFrom_72 rfl rfl ?_
      replace hf := bd1_s hf
      obtain ⟨h36, e_h36, hf⟩ := hf
      refine ax_putI fw_251 rfl rfl dRo_tryFrom_73 e_h36 ?_
      cases hf
      exact Hr _ _ dRo_tryFrom_76
    · refine ax_if_neT 77 dRo_tryFrom_49 (by decide) hc ?_
      refine ax_iconst (0 : Int32) dRo_tryFrom_77 k32_0 ?_
      refine ax_istore_n (i := 3) [some (va_rf (some o)), some (.int p1), some (.int p2), some (.int (0 : Int32))] dRo_tryFrom_78 rfl (Nat.le_of_ble_eq_true rfl) (Or.inr (c1i rfl)) rfl ?_
      refine w_Ro_tryFrom_L79 hR1 hR2 hr1 hr2 Hr hrec FU (0 : Int32) h0 hf
  · refine ax_icmp_eqF 33 dRo_tryFrom_5 (by decide) hc ?_
    refine ax_iload_n (i := 2) dRo_tryFrom_8 rfl rfl ?_
    refine ax_aload_n (i := 0) (some o) dRo_tryFrom_9 rfl rfl ?_
    replace hf := bd1_s hf
    obtain ⟨x37, e_x37, hf⟩ := hf
    refine ax_getI fl_251 rfl dRo_tryFrom_10 e_x37 ?_
    replace hf := ite_c hf
    rcases hf with ⟨hc, hf⟩ | ⟨hc, hf⟩
    · refine ax_icmp_gtT 32 dRo_tryFrom_13 (by decide) hc ?_
      cases hf
      exact Hr _ _ dRo_tryFrom_32
    · refine ax_icmp_gtF 32 dRo_tryFrom_13 (by decide) hc ?_
      refine ax_iload_n (i := 2) dRo_tryFrom_16 rfl rfl ?_
      refine ax_aload_n (i := 0) (some o) dRo_tryFrom_17 rfl rfl ?_
      replace hf := bd1_s hf
      obtain ⟨x38, e_x38, hf⟩ := hf
      refine ax_getI fl_251 rfl dRo_tryFrom_18 e_x38 ?_
      replace hf := ite_c hf
      rcases hf with ⟨hc, hf⟩ | ⟨hc, hf⟩
      · refine ax_icmp_neF 33 dRo_tryFrom_21 (by decide) hc ?_
        refine ax_iload_n (i := 1) dRo_tryFrom_24 rfl rfl ?_
        refine ax_aload_n (i := 0) (some o) dRo_tryFrom_25 rfl rfl ?_
        replace hf := bd1_s hf
        obtain ⟨x52, e_x52, hf⟩ := hf
        refine ax_getI fl_250 rfl dRo_tryFrom_26 e_x52 ?_
        replace hf := ite_c hf
        rcases hf with ⟨hc, hf⟩ | ⟨hc, hf⟩
        · refine ax_icmp_ltT 33 dRo_tryFrom_29 (by decide) hc ?_
          refine ax_aload_n (i := 0) (some o) dRo_tryFrom_33 rfl rfl ?_
          replace hf := bd1_s hf
          obtain ⟨x53, e_x53, hf⟩ := hf
          refine ax_getI fl_252 rfl dRo_tryFrom_34 e_x53 ?_
          refine ax_aload_n (i := 0) (some o) dRo_tryFrom_37 rfl rfl ?_
          replace hf := bd1_s hf
          obtain ⟨r54, e_r54, hf⟩ := hf
          refine ax_getR fl_246 rfl dRo_tryFrom_38 e_r54 ?_
          refine ax_iload_n (i := 1) dRo_tryFrom_41 rfl rfl ?_
          replace hf := bd1_s hf
          obtain ⟨a55, e_d, hf⟩ := hf
          subst e_d
          replace hf := bd1_s hf
          obtain ⟨r56, e_r56, hf⟩ := hf
          refine ax_aald (c := 3) (by decide) rfl rfl dRo_tryFrom_42 e_r56 ?_
          replace hf := bd1_s hf
          obtain ⟨a57, e_d, hf⟩ := hf
          subst e_d
          replace hf := bd1_s hf
          obtain ⟨x58, e_x58, hf⟩ := hf
          refine ax_getI fl_224 rfl dRo_tryFrom_43 e_x58 ?_
          refine ax_iconst (-1 : Int32) dRo_tryFrom_46 k32_m1 ?_
          refine ax_ixor dRo_tryFrom_47 ?_
          refine ax_iand dRo_tryFrom_48 ?_
          replace hf := ite_c hf
          rcases hf with ⟨hc, hf⟩ | ⟨hc, hf⟩
          · refine ax_if_neF 77 dRo_tryFrom_49 (by decide) hc ?_
            refine ax_aload_n (i := 0) (some o) dRo_tryFrom_52 rfl rfl ?_
            replace hf := bd1_s hf
            obtain ⟨r59, e_r59, hf⟩ := hf
            refine ax_getR fl_248 rfl dRo_tryFrom_53 e_r59 ?_
            refine ax_iconst (0 : Int32) dRo_tryFrom_56 k32_0 ?_
            refine ax_aload_n (i := 0) (some o) dRo_tryFrom_57 rfl rfl ?_
            replace hf := bd1_s hf
            obtain ⟨r60, e_r60, hf⟩ := hf
            refine ax_getR fl_249 rfl dRo_tryFrom_58 e_r60 ?_
            refine ax_iconst (0 : Int32) dRo_tryFrom_61 k32_0 ?_
            refine ax_iload_n (i := 1) dRo_tryFrom_62 rfl rfl ?_
            replace hf := bd1_s hf
            obtain ⟨a61, e_d, hf⟩ := hf
            subst e_d
            replace hf := bd1_s hf
            obtain ⟨a62, e_d, hf⟩ := hf
            subst e_d
            replace hf := bd1_s hf
            obtain ⟨h63, e_h63, hf⟩ := hf
            refine ax_cpI w_831 w_acn w_acs w_sys (Nat.le_trans (Nat.le_of_ble_eq_true rfl) hR1) (Nat.le_trans (Nat.le_of_ble_eq_true rfl) hR2) (Nat.le_of_ble_eq_true rfl) dRo_tryFrom_63 e_h63 ?_
            refine ax_aload_n (i := 0) (some o) dRo_tryFrom_66 rfl rfl ?_
            refine ax_iload_n (i := 1) dRo_tryFrom_67 rfl rfl ?_
            replace hf := bd1_s hf
            obtain ⟨h64, e_h64, hf⟩ := hf
            refine ax_putI fw_250 rfl rfl dRo_tryFrom_68 e_h64 ?_
            refine ax_aload_n (i := 0) (some o) dRo_tryFrom_71 rfl rfl ?_
            refine ax_iload_n (i := 2) dRo_tryFrom_72 rfl rfl ?_
            replace hf := bd1_s hf
            obtain ⟨h65, e_h65, hf⟩ := hf
            refine ax_putI fw_251 rfl rfl dRo_tryFrom_73 e_h65 ?_
            cases hf
            exact Hr _ _ dRo_tryFrom_76
          · refine ax_if_neT 77 dRo_tryFrom_49 (by decide) hc ?_
            refine ax_iconst (0 : Int32) dRo_tryFrom_77 k32_0 ?_
            refine ax_istore_n (i := 3) [some (va_rf (some o)), some (.int p1), some (.int p2), some (.int (0 : Int32))] dRo_tryFrom_78 rfl (Nat.le_of_ble_eq_true rfl) (Or.inr (c1i rfl)) rfl ?_
            refine w_Ro_tryFrom_L79 hR1 hR2 hr1 hr2 Hr hrec FU (0 : Int32) h0 hf
        · refine ax_icmp_ltF 33 dRo_tryFrom_29 (by decide) hc ?_
          cases hf
          exact Hr _ _ dRo_tryFrom_32
      · refine ax_icmp_neT 33 dRo_tryFrom_21 (by decide) hc ?_
        refine ax_aload_n (i := 0) (some o) dRo_tryFrom_33 rfl rfl ?_
        replace hf := bd1_s hf
        obtain ⟨x39, e_x39, hf⟩ := hf
        refine ax_getI fl_252 rfl dRo_tryFrom_34 e_x39 ?_
        refine ax_aload_n (i := 0) (some o) dRo_tryFrom_37 rfl rfl ?_
        replace hf := bd1_s hf
        obtain ⟨r40, e_r40, hf⟩ := hf
        refine ax_getR fl_246 rfl dRo_tryFrom_38 e_r40 ?_
        refine ax_iload_n (i := 1) dRo_tryFrom_41 rfl rfl ?_
        replace hf := bd1_s hf
        obtain ⟨a41, e_d, hf⟩ := hf
        subst e_d
        replace hf := bd1_s hf
        obtain ⟨r42, e_r42, hf⟩ := hf
        refine ax_aald (c := 3) (by decide) rfl rfl dRo_tryFrom_42 e_r42 ?_
        replace hf := bd1_s hf
        obtain ⟨a43, e_d, hf⟩ := hf
        subst e_d
        replace hf := bd1_s hf
        obtain ⟨x44, e_x44, hf⟩ := hf
        refine ax_getI fl_224 rfl dRo_tryFrom_43 e_x44 ?_
        refine ax_iconst (-1 : Int32) dRo_tryFrom_46 k32_m1 ?_
        refine ax_ixor dRo_tryFrom_47 ?_
        refine ax_iand dRo_tryFrom_48 ?_
        replace hf := ite_c hf
        rcases hf with ⟨hc, hf⟩ | ⟨hc, hf⟩
        · refine ax_if_neF 77 dRo_tryFrom_49 (by decide) hc ?_
          refine ax_aload_n (i := 0) (some o) dRo_tryFrom_52 rfl rfl ?_
          replace hf := bd1_s hf
          obtain ⟨r45, e_r45, hf⟩ := hf
          refine ax_getR fl_248 rfl dRo_tryFrom_53 e_r45 ?_
          refine ax_iconst (0 : Int32) dRo_tryFrom_56 k32_0 ?_
          refine ax_aload_n (i := 0) (some o) dRo_tryFrom_57 rfl rfl ?_
          replace hf := bd1_s hf
          obtain ⟨r46, e_r46, hf⟩ := hf
          refine ax_getR fl_249 rfl dRo_tryFrom_58 e_r46 ?_
          refine ax_iconst (0 : Int32) dRo_tryFrom_61 k32_0 ?_
          refine ax_iload_n (i := 1) dRo_tryFrom_62 rfl rfl ?_
          replace hf := bd1_s hf
          obtain ⟨a47, e_d, hf⟩ := hf
          subst e_d
          replace hf := bd1_s hf
          obtain ⟨a48, e_d, hf⟩ := hf
          subst e_d
          replace hf := bd1_s hf
          obtain ⟨h49, e_h49, hf⟩ := hf
          refine ax_cpI w_831 w_acn w_acs w_sys (Nat.le_trans (Nat.le_of_ble_eq_true rfl) hR1) (Nat.le_trans (Nat.le_of_ble_eq_true rfl) hR2) (Nat.le_of_ble_eq_true rfl) dRo_tryFrom_63 e_h49 ?_
          refine ax_aload_n (i := 0) (some o) dRo_tryFrom_66 rfl rfl ?_
          refine ax_iload_n (i := 1) dRo_tryFrom_67 rfl rfl ?_
          replace hf := bd1_s hf
          obtain ⟨h50, e_h50, hf⟩ := hf
          refine ax_putI fw_250 rfl rfl dRo_tryFrom_68 e_h50 ?_
          refine ax_aload_n (i := 0) (some o) dRo_tryFrom_71 rfl rfl ?_
          refine ax_iload_n (i := 2) dRo_tryFrom_72 rfl rfl ?_
          replace hf := bd1_s hf
          obtain ⟨h51, e_h51, hf⟩ := hf
          refine ax_putI fw_251 rfl rfl dRo_tryFrom_73 e_h51 ?_
          cases hf
          exact Hr _ _ dRo_tryFrom_76
        · refine ax_if_neT 77 dRo_tryFrom_49 (by decide) hc ?_
          refine ax_iconst (0 : Int32) dRo_tryFrom_77 k32_0 ?_
          refine ax_istore_n (i := 3) [some (va_rf (some o)), some (.int p1), some (.int p2), some (.int (0 : Int32))] dRo_tryFrom_78 rfl (Nat.le_of_ble_eq_true rfl) (Or.inr (c1i rfl)) rfl ?_
          refine w_Ro_tryFrom_L79 hR1 hR2 hr1 hr2 Hr hrec FU (0 : Int32) h0 hf
theorem c_Ro_tryFrom {l : Launch} {E : EN} : ∀ (n : Nat) {h0 : AH} {o : Nat} {p1 : Int32} {p2 : Int32} {hF : AH}, f_Ro_tryFrom n h0 o p1 p2 = some hF → AM l E (5 + n) mi_Ro_tryFrom [va_rf (some o), .int p1, .int p2] h0 none hF := by
  intro n
  induction n with
  | zero => intro h0 o p1 p2 hF hf; cases hf
  | succ n ih =>
    intro h0 o p1 p2 hF hf
    unfold f_Ro_tryFrom at hf
    exact am_of2 [(va_rf (some o), false), (.int p1, false), (.int p2, false)] 1 ⟨cat_rf _, rfl, rfl, trivial⟩ rfl rfl (v_Ro_tryFrom (by show _ ≤ 5 + (n + 1); omega) (by show _ ≤ 64 * (5 + (n + 1)); omega) (dr := 5 + n) (by show _ ≤ 5 + (n + 1); omega) (by show _ ≤ 64 * (5 + (n + 1)); omega) (fun h o p1 p2 h' e => ih e) (fun pc L hd => ax_vret rfl hd rfl) hf)
theorem v_Ro_becomeBest {l : Launch} {E : EN} {R : Room} {B : (Nat × Nat) × (Nat × Nat)} {Qf : QF} {h0 : AH} {o : Nat} {p1 : Int32} {p2 : Int32} {p3 : Int32} {r : Int32} {hF : AH} (hR1 : 14 ≤ R.frames) (hR2 : 896 ≤ R.locals) (Hr : ∀ (pc : Nat) (L : List (Option Value)), decode mi_Ro_becomeBest.2.1 pc = .ok (.ireturn, 1) → AW l E mi_Ro_becomeBest R B Qf pc L [.int r] hF) (hf : f_Ro_becomeBest h0 o p1 p2 p3 = some (r, hF)) : AW l E mi_Ro_becomeBest R B Qf 0 [some (va_rf (some o)), some (.int p1), some (.int p2), some (.int p3)] [] h0 := by
  unfold f_Ro_becomeBest at hf
  refine ax_aload_n (i := 0) (some o) dRo_becomeBest_0 rfl rfl ?_
  refine ax_iload_n (i := 2) dRo_becomeBest_1 rfl rfl ?_
  replace hf := bd1_s hf
  obtain ⟨h1, e_h1, hf⟩ := hf
  refine ax_putI fw_252 rfl rfl dRo_becomeBest_2 e_h1 ?_
  refine ax_aload_n (i := 0) (some o) dRo_becomeBest_5 rfl rfl ?_
  refine ax_iload_n (i := 3) dRo_becomeBest_6 rfl rfl ?_
  replace hf := bd1_s hf
  obtain ⟨h2, e_h2, hf⟩ := hf
  refine ax_putI fw_253 rfl rfl dRo_becomeBest_7 e_h2 ?_
  refine ax_aload_n (i := 0) (some o) dRo_becomeBest_10 rfl rfl ?_
  refine ax_iconst (-1 : Int32) dRo_becomeBest_11 k32_m1 ?_
  replace hf := bd1_s hf
  obtain ⟨h3, e_h3, hf⟩ := hf
  refine ax_putI fw_250 rfl rfl dRo_becomeBest_12 e_h3 ?_
  refine ax_aload_n (i := 0) (some o) dRo_becomeBest_15 rfl rfl ?_
  replace hf := bd1_s hf
  obtain ⟨r4, e_r4, hf⟩ := hf
  refine ax_getR fl_246 rfl dRo_becomeBest_16 e_r4 ?_
  refine ax_iconst (0 : Int32) dRo_becomeBest_19 k32_0 ?_
  replace hf := bd1_s hf
  obtain ⟨a5, e_d, hf⟩ := hf
  subst e_d
  replace hf := bd1_s hf
  obtain ⟨r6, e_r6, hf⟩ := hf
  refine ax_aald (c := 3) (by decide) rfl rfl dRo_becomeBest_20 e_r6 ?_
  refine ax_iload_n (i := 1) dRo_becomeBest_21 rfl rfl ?_
  refine ax_aload_n (i := 0) (some o) dRo_becomeBest_22 rfl rfl ?_
  replace hf := bd1_s hf
  obtain ⟨r7, e_r7, hf⟩ := hf
  refine ax_getR fl_240 rfl dRo_becomeBest_23 e_r7 ?_
  replace hf := bd1_s hf
  obtain ⟨a8, e_d, hf⟩ := hf
  subst e_d
  replace hf := bd1_s hf
  obtain ⟨h9, e_h9, hf⟩ := hf
  obtain ⟨k_e_h9, e_h9⟩ := cv_s e_h9
  refine ax_callV (As := [.int p1, va_rf r7]) (rest := []) (c_Go_startWith e_h9) ml_756 cm_Go_startWith rfl k_e_h9 (Nat.le_trans (Nat.le_of_ble_eq_true rfl) hR1) (Nat.le_trans (Nat.le_of_ble_eq_true rfl) hR2) rfl rfl (Nat.le_of_ble_eq_true rfl) dRo_becomeBest_26 ?_
  refine ax_aload_n (i := 0) (some o) dRo_becomeBest_29 rfl rfl ?_
  refine ax_iconst (0 : Int32) dRo_becomeBest_30 k32_0 ?_
  refine ax_iconst (0 : Int32) dRo_becomeBest_31 k32_0 ?_
  replace hf := bd1_s hf
  obtain ⟨h10, e_h10, hf⟩ := hf
  obtain ⟨k_e_h10, e_h10⟩ := cv_s e_h10
  refine ax_callV (As := [.int (0 : Int32), .int (0 : Int32)]) (rest := []) (c_Ro_tryFrom 8 e_h10) ml_827 cm_Ro_tryFrom rfl k_e_h10 (Nat.le_trans (Nat.le_of_ble_eq_true rfl) hR1) (Nat.le_trans (Nat.le_of_ble_eq_true rfl) hR2) rfl rfl (Nat.le_of_ble_eq_true rfl) dRo_becomeBest_32 ?_
  refine ax_aload_n (i := 0) (some o) dRo_becomeBest_35 rfl rfl ?_
  replace hf := bd1_s hf
  obtain ⟨x11, e_x11, hf⟩ := hf
  refine ax_getI fl_250 rfl dRo_becomeBest_36 e_x11 ?_
  refine ax_iconst (-1 : Int32) dRo_becomeBest_39 k32_m1 ?_
  replace hf := ite_c hf
  rcases hf with ⟨hc, hf⟩ | ⟨hc, hf⟩
  · refine ax_icmp_neF 45 dRo_becomeBest_40 (by decide) hc ?_
    refine ax_iconst (-1 : Int32) dRo_becomeBest_43 k32_m1 ?_
    cases hf
    exact Hr _ _ dRo_becomeBest_44
  · refine ax_icmp_neT 45 dRo_becomeBest_40 (by decide) hc ?_
    refine ax_aload_n (i := 0) (some o) dRo_becomeBest_45 rfl rfl ?_
    replace hf := bd1_s hf
    obtain ⟨r12, e_r12, hf⟩ := hf
    refine ax_getR fl_249 rfl dRo_becomeBest_46 e_r12 ?_
    refine ax_iconst (0 : Int32) dRo_becomeBest_49 k32_0 ?_
    refine ax_aload_n (i := 0) (some o) dRo_becomeBest_50 rfl rfl ?_
    replace hf := bd1_s hf
    obtain ⟨r13, e_r13, hf⟩ := hf
    refine ax_getR fl_242 rfl dRo_becomeBest_51 e_r13 ?_
    refine ax_iconst (0 : Int32) dRo_becomeBest_54 k32_0 ?_
    refine ax_aload_n (i := 0) (some o) dRo_becomeBest_55 rfl rfl ?_
    replace hf := bd1_s hf
    obtain ⟨x14, e_x14, hf⟩ := hf
    refine ax_getI fl_250 rfl dRo_becomeBest_56 e_x14 ?_
    replace hf := bd1_s hf
    obtain ⟨a15, e_d, hf⟩ := hf
    subst e_d
    replace hf := bd1_s hf
    obtain ⟨a16, e_d, hf⟩ := hf
    subst e_d
    replace hf := bd1_s hf
    obtain ⟨h17, e_h17, hf⟩ := hf
    refine ax_cpI w_831 w_acn w_acs w_sys (Nat.le_trans (Nat.le_of_ble_eq_true rfl) hR1) (Nat.le_trans (Nat.le_of_ble_eq_true rfl) hR2) (Nat.le_of_ble_eq_true rfl) dRo_becomeBest_59 e_h17 ?_
    refine ax_aload_n (i := 0) (some o) dRo_becomeBest_62 rfl rfl ?_
    refine ax_aload_n (i := 0) (some o) dRo_becomeBest_63 rfl rfl ?_
    replace hf := bd1_s hf
    obtain ⟨x18, e_x18, hf⟩ := hf
    refine ax_getI fl_250 rfl dRo_becomeBest_64 e_x18 ?_
    replace hf := bd1_s hf
    obtain ⟨h19, e_h19, hf⟩ := hf
    refine ax_putI fw_244 rfl rfl dRo_becomeBest_67 e_h19 ?_
    refine ax_aload_n (i := 0) (some o) dRo_becomeBest_70 rfl rfl ?_
    replace hf := bd1_s hf
    obtain ⟨x20, e_x20, hf⟩ := hf
    refine ax_getI fl_251 rfl dRo_becomeBest_71 e_x20 ?_
    cases hf
    exact Hr _ _ dRo_becomeBest_74
theorem c_Ro_becomeBest {l : Launch} {E : EN} {h0 : AH} {o : Nat} {p1 : Int32} {p2 : Int32} {p3 : Int32} {r : Int32} {hF : AH} (hf : f_Ro_becomeBest h0 o p1 p2 p3 = some (r, hF)) : AM l E 14 mi_Ro_becomeBest [va_rf (some o), .int p1, .int p2, .int p3] h0 (some (.int r)) hF :=
  am_of2 [(va_rf (some o), false), (.int p1, false), (.int p2, false), (.int p3, false)] 0 ⟨cat_rf _, rfl, rfl, rfl, trivial⟩ rfl rfl (v_Ro_becomeBest (Nat.le_refl _) (Nat.le_refl _) (fun pc L hd => ax_iret rfl hd rfl) hf)
theorem v_C_plan {l : Launch} {E : EN} {R : Room} {B : (Nat × Nat) × (Nat × Nat)} {Qf : QF} {h0 : AH} {o : Nat} {p1 : Int32} {p2 : Int32} {p3 : Int32} {r : Int32} {hF : AH} (hR1 : 15 ≤ R.frames) (hR2 : 960 ≤ R.locals) (Hr : ∀ (pc : Nat) (L : List (Option Value)), decode mi_C_plan.2.1 pc = .ok (.ireturn, 1) → AW l E mi_C_plan R B Qf pc L [.int r] hF) (hf : f_C_plan h0 o p1 p2 p3 = some (r, hF)) : AW l E mi_C_plan R B Qf 0 [some (va_rf (some o)), some (.int p1), some (.int p2), some (.int p3)] [] h0 := by
  unfold f_C_plan at hf
  refine ax_iload_n (i := 1) dC_plan_0 rfl rfl ?_
  replace hf := bd1_s hf
  obtain ⟨x1, e_x1, hf⟩ := hf
  refine ax_callS (As := [.int p1]) (rest := []) (c_C_isFacts e_x1) ml_691 cm_C_isFacts (Nat.le_trans (Nat.le_of_ble_eq_true rfl) hR1) (Nat.le_trans (Nat.le_of_ble_eq_true rfl) hR2) rfl rfl (Nat.le_of_ble_eq_true rfl) dC_plan_1 ?_
  replace hf := ite_c hf
  rcases hf with ⟨hc, hf⟩ | ⟨hc, hf⟩
  · refine ax_if_eqT 23 dC_plan_4 (by decide) hc ?_
    refine ax_bipush (-102 : Int32) dC_plan_23 k8_m102 ?_
    cases hf
    exact Hr _ _ dC_plan_25
  · refine ax_if_eqF 23 dC_plan_4 (by decide) hc ?_
    refine ax_iload_n (i := 2) dC_plan_7 rfl rfl ?_
    replace hf := bd1_s hf
    obtain ⟨x2, e_x2, hf⟩ := hf
    refine ax_callS (As := [.int p2]) (rest := []) (c_C_isFacts e_x2) ml_691 cm_C_isFacts (Nat.le_trans (Nat.le_of_ble_eq_true rfl) hR1) (Nat.le_trans (Nat.le_of_ble_eq_true rfl) hR2) rfl rfl (Nat.le_of_ble_eq_true rfl) dC_plan_8 ?_
    replace hf := ite_c hf
    rcases hf with ⟨hc, hf⟩ | ⟨hc, hf⟩
    · refine ax_if_eqT 23 dC_plan_11 (by decide) hc ?_
      refine ax_bipush (-102 : Int32) dC_plan_23 k8_m102 ?_
      cases hf
      exact Hr _ _ dC_plan_25
    · refine ax_if_eqF 23 dC_plan_11 (by decide) hc ?_
      refine ax_iload_n (i := 3) dC_plan_14 rfl rfl ?_
      replace hf := ite_c hf
      rcases hf with ⟨hc, hf⟩ | ⟨hc, hf⟩
      · refine ax_if_ltT 23 dC_plan_15 (by decide) hc ?_
        refine ax_bipush (-102 : Int32) dC_plan_23 k8_m102 ?_
        cases hf
        exact Hr _ _ dC_plan_25
      · refine ax_if_ltF 23 dC_plan_15 (by decide) hc ?_
        refine ax_iload_n (i := 3) dC_plan_18 rfl rfl ?_
        refine ax_iconst (5 : Int32) dC_plan_19 k32_5 ?_
        replace hf := ite_c hf
        rcases hf with ⟨hc, hf⟩ | ⟨hc, hf⟩
        · refine ax_icmp_leF 26 dC_plan_20 (by decide) hc ?_
          refine ax_bipush (-102 : Int32) dC_plan_23 k8_m102 ?_
          cases hf
          exact Hr _ _ dC_plan_25
        · refine ax_icmp_leT 26 dC_plan_20 (by decide) hc ?_
          refine ax_aload_n (i := 0) (some o) dC_plan_26 rfl rfl ?_
          replace hf := bd1_s hf
          obtain ⟨x3, e_x3, hf⟩ := hf
          refine ax_getI fl_330 rfl dC_plan_27 e_x3 ?_
          refine ax_bipush (20 : Int32) dC_plan_30 k8_20 ?_
          replace hf := ite_c hf
          rcases hf with ⟨hc, hf⟩ | ⟨hc, hf⟩
          · refine ax_icmp_ltT 38 dC_plan_32 (by decide) hc ?_
            refine ax_aload_n (i := 0) (some o) dC_plan_38 rfl rfl ?_
            refine ax_dup dC_plan_39 rfl ?_
            replace hf := bd1_s hf
            obtain ⟨x4, e_x4, hf⟩ := hf
            refine ax_getI fl_330 rfl dC_plan_40 e_x4 ?_
            refine ax_iconst (1 : Int32) dC_plan_43 k32_1 ?_
            refine ax_iadd dC_plan_44 ?_
            replace hf := bd1_s hf
            obtain ⟨h5, e_h5, hf⟩ := hf
            refine ax_putI fw_330 rfl rfl dC_plan_45 e_h5 ?_
            refine ax_aload_n (i := 0) (some o) dC_plan_48 rfl rfl ?_
            replace hf := bd1_s hf
            obtain ⟨r6, e_r6, hf⟩ := hf
            refine ax_getR fl_329 rfl dC_plan_49 e_r6 ?_
            refine ax_iload_n (i := 1) dC_plan_52 rfl rfl ?_
            refine ax_iload_n (i := 2) dC_plan_53 rfl rfl ?_
            refine ax_iload_n (i := 3) dC_plan_54 rfl rfl ?_
            replace hf := bd1_s hf
            obtain ⟨a7, e_d, hf⟩ := hf
            subst e_d
            replace hf := bd2_s hf
            obtain ⟨x8, h9, e_x8, hf⟩ := hf
            obtain ⟨k_e_x8, e_x8⟩ := cv_s e_x8
            refine ax_callV (As := [.int p1, .int p2, .int p3]) (rest := []) (c_Ro_becomeBest e_x8) ml_823 cm_Ro_becomeBest rfl k_e_x8 (Nat.le_trans (Nat.le_of_ble_eq_true rfl) hR1) (Nat.le_trans (Nat.le_of_ble_eq_true rfl) hR2) rfl rfl (Nat.le_of_ble_eq_true rfl) dC_plan_55 ?_
            cases hf
            exact Hr _ _ dC_plan_58
          · refine ax_icmp_ltF 38 dC_plan_32 (by decide) hc ?_
            refine ax_bipush (-103 : Int32) dC_plan_35 k8_m103 ?_
            cases hf
            exact Hr _ _ dC_plan_37
theorem c_C_plan {l : Launch} {E : EN} {h0 : AH} {o : Nat} {p1 : Int32} {p2 : Int32} {p3 : Int32} {r : Int32} {hF : AH} (hf : f_C_plan h0 o p1 p2 p3 = some (r, hF)) : AM l E 15 mi_C_plan [va_rf (some o), .int p1, .int p2, .int p3] h0 (some (.int r)) hF :=
  am_of2 [(va_rf (some o), false), (.int p1, false), (.int p2, false), (.int p3, false)] 0 ⟨cat_rf _, rfl, rfl, rfl, trivial⟩ rfl rfl (v_C_plan (Nat.le_refl _) (Nat.le_refl _) (fun pc L hd => ax_iret rfl hd rfl) hf)
theorem v_C_isTries {l : Launch} {E : EN} {R : Room} {B : (Nat × Nat) × (Nat × Nat)} {Qf : QF} {h0 : AH} {p1 : Int32} {r : Int32} (hR1 : 1 ≤ R.frames) (hR2 : 64 ≤ R.locals) (Hr : (r = 0 ∨ r = 1) → ∀ (pc : Nat) (L : List (Option Value)), decode mi_C_isTries.2.1 pc = .ok (.ireturn, 1) → AW l E mi_C_isTries R B Qf pc L [.int r] h0) (hf : f_C_isTries h0 p1 = some r) : AW l E mi_C_isTries R B Qf 0 [some (.int p1)] [] h0 := by
  unfold f_C_isTries at hf
  refine ax_iload_n (i := 0) dC_isTries_0 rfl rfl ?_
  refine ax_iconst (1 : Int32) dC_isTries_1 k32_1 ?_
  replace hf := ite_c hf
  rcases hf with ⟨hc, hf⟩ | ⟨hc, hf⟩
  · refine ax_icmp_ltT 14 dC_isTries_2 (by decide) hc ?_
    refine ax_iconst (0 : Int32) dC_isTries_14 k32_0 ?_
    cases hf
    exact Hr (Or.inl rfl) _ _ dC_isTries_15
  · refine ax_icmp_ltF 14 dC_isTries_2 (by decide) hc ?_
    refine ax_iload_n (i := 0) dC_isTries_5 rfl rfl ?_
    refine ax_iconst (3 : Int32) dC_isTries_6 k32_3 ?_
    replace hf := ite_c hf
    rcases hf with ⟨hc, hf⟩ | ⟨hc, hf⟩
    · refine ax_icmp_gtT 14 dC_isTries_7 (by decide) hc ?_
      refine ax_iconst (0 : Int32) dC_isTries_14 k32_0 ?_
      cases hf
      exact Hr (Or.inl rfl) _ _ dC_isTries_15
    · refine ax_icmp_gtF 14 dC_isTries_7 (by decide) hc ?_
      refine ax_iconst (1 : Int32) dC_isTries_10 k32_1 ?_
      refine ax_goto 15 dC_isTries_11 (by decide) ?_
      cases hf
      exact Hr (Or.inr rfl) _ _ dC_isTries_15
theorem c_C_isTries {l : Launch} {E : EN} {h0 : AH} {p1 : Int32} {r : Int32} (hf : f_C_isTries h0 p1 = some r) : AM l E 1 mi_C_isTries [.int p1] h0 (some (.int r)) h0 :=
  am_of2 [(.int p1, false)] 0 ⟨rfl, trivial⟩ rfl rfl (v_C_isTries (Nat.le_refl _) (Nat.le_refl _) (fun hz pc L hd => ax_zret rfl hz hd rfl) hf)
theorem v_C_isPart {l : Launch} {E : EN} {R : Room} {B : (Nat × Nat) × (Nat × Nat)} {Qf : QF} {h0 : AH} {p1 : Int32} {r : Int32} (hR1 : 1 ≤ R.frames) (hR2 : 64 ≤ R.locals) (Hr : (r = 0 ∨ r = 1) → ∀ (pc : Nat) (L : List (Option Value)), decode mi_C_isPart.2.1 pc = .ok (.ireturn, 1) → AW l E mi_C_isPart R B Qf pc L [.int r] h0) (hf : f_C_isPart h0 p1 = some r) : AW l E mi_C_isPart R B Qf 0 [some (.int p1)] [] h0 := by
  unfold f_C_isPart at hf
  refine ax_iload_n (i := 0) dC_isPart_0 rfl rfl ?_
  replace hf := ite_c hf
  rcases hf with ⟨hc, hf⟩ | ⟨hc, hf⟩
  · refine ax_if_eqT 9 dC_isPart_1 (by decide) hc ?_
    refine ax_iconst (1 : Int32) dC_isPart_9 k32_1 ?_
    refine ax_goto 14 dC_isPart_10 (by decide) ?_
    cases hf
    exact Hr (Or.inr rfl) _ _ dC_isPart_14
  · refine ax_if_eqF 9 dC_isPart_1 (by decide) hc ?_
    refine ax_iload_n (i := 0) dC_isPart_4 rfl rfl ?_
    refine ax_iconst (1 : Int32) dC_isPart_5 k32_1 ?_
    replace hf := ite_c hf
    rcases hf with ⟨hc, hf⟩ | ⟨hc, hf⟩
    · refine ax_icmp_neF 13 dC_isPart_6 (by decide) hc ?_
      refine ax_iconst (1 : Int32) dC_isPart_9 k32_1 ?_
      refine ax_goto 14 dC_isPart_10 (by decide) ?_
      cases hf
      exact Hr (Or.inr rfl) _ _ dC_isPart_14
    · refine ax_icmp_neT 13 dC_isPart_6 (by decide) hc ?_
      refine ax_iconst (0 : Int32) dC_isPart_13 k32_0 ?_
      cases hf
      exact Hr (Or.inl rfl) _ _ dC_isPart_14
theorem c_C_isPart {l : Launch} {E : EN} {h0 : AH} {p1 : Int32} {r : Int32} (hf : f_C_isPart h0 p1 = some r) : AM l E 1 mi_C_isPart [.int p1] h0 (some (.int r)) h0 :=
  am_of2 [(.int p1, false)] 0 ⟨rfl, trivial⟩ rfl rfl (v_C_isPart (Nat.le_refl _) (Nat.le_refl _) (fun hz pc L hd => ax_zret rfl hz hd rfl) hf)
theorem w_C_power_L5 {l : Launch} {E : EN} {R : Room} {B : (Nat × Nat) × (Nat × Nat)} {Qf : QF} {h0 : AH} {r : Int64} (hR1 : 1 ≤ R.frames) (hR2 : 64 ≤ R.locals) (Hr : ∀ (pc : Nat) (L : List (Option Value)), decode mi_C_power.2.1 pc = .ok (.lreturn, 1) → AW l E mi_C_power R B Qf pc L [.long r] h0) {y0 : Int64} {y2 : Int32} : ∀ (n : Nat) (z3 : Int64) (z5 : Int32), f_C_power_L5 h0 y0 y2 n z3 z5 = some r → AW l E mi_C_power R B Qf 5 [some (.long y0), none, some (.int y2), some (.long z3), none, some (.int z5)] [] h0 := by
  intro n
  induction n with
  | zero => intro z3 z5 hf; cases hf
  | succ n ih =>
    intro z3 z5 hf
    rw [f_C_power_L5] at hf
    refine ax_iload (i := 5) dC_power_5 rfl ?_
    refine ax_iload_n (i := 2) dC_power_7 rfl rfl ?_
    replace hf := ite_c hf
    rcases hf with ⟨hc, hf⟩ | ⟨hc, hf⟩
    · refine ax_icmp_geF 21 dC_power_8 (by decide) hc ?_
      refine ax_lload_n (i := 3) dC_power_11 rfl rfl ?_
      refine ax_lload_n (i := 0) dC_power_12 rfl rfl ?_
      refine ax_lmul dC_power_13 ?_
      replace hf := bd1_s hf
      obtain ⟨x1, e_x1, hf⟩ := hf
      refine ax_nmJ (Option.some.inj e_x1) ?_
      refine ax_lstore_n (i := 3) [some (.long y0), none, some (.int y2), some (.long x1), none, some (.int z5)] dC_power_14 rfl (Nat.le_of_ble_eq_true rfl) (Or.inr (c1i rfl)) rfl ?_
      refine ax_iinc (i := 5) (z5 + (1 : Int32)) [some (.long y0), none, some (.int y2), some (.long x1), none, some (.int (z5 + (1 : Int32)))] dC_power_15 rfl (iic k32_1) (Or.inr (c1n rfl)) rfl ?_
      refine ax_goto 5 dC_power_18 (by decide) ?_
      exact ih x1 (z5 + (1 : Int32)) hf
    · refine ax_icmp_geT 21 dC_power_8 (by decide) hc ?_
      refine ax_lload_n (i := 3) dC_power_21 rfl rfl ?_
      cases hf
      exact Hr _ _ dC_power_22
theorem v_C_power {l : Launch} {E : EN} {R : Room} {B : (Nat × Nat) × (Nat × Nat)} {Qf : QF} {h0 : AH} {p1 : Int64} {p2 : Int32} {r : Int64} (hR1 : 1 ≤ R.frames) (hR2 : 64 ≤ R.locals) (Hr : ∀ (pc : Nat) (L : List (Option Value)), decode mi_C_power.2.1 pc = .ok (.lreturn, 1) → AW l E mi_C_power R B Qf pc L [.long r] h0) (hf : f_C_power h0 p1 p2 = some r) : AW l E mi_C_power R B Qf 0 [some (.long p1), none, some (.int p2), none, none, none] [] h0 := by
  unfold f_C_power at hf
  refine ax_lconst (1 : Int64) dC_power_0 kl_1 ?_
  refine ax_lstore_n (i := 3) [some (.long p1), none, some (.int p2), some (.long (1 : Int64)), none, none] dC_power_1 rfl (Nat.le_of_ble_eq_true rfl) (Or.inr (c1i rfl)) rfl ?_
  refine ax_iconst (0 : Int32) dC_power_2 k32_0 ?_
  refine ax_istore (i := 5) [some (.long p1), none, some (.int p2), some (.long (1 : Int64)), none, some (.int (0 : Int32))] dC_power_3 (Nat.le_of_ble_eq_true rfl) (Or.inr (c1n rfl)) rfl ?_
  refine w_C_power_L5 hR1 hR2 Hr FU (1 : Int64) (0 : Int32) hf
theorem c_C_power {l : Launch} {E : EN} {h0 : AH} {p1 : Int64} {p2 : Int32} {r : Int64} (hf : f_C_power h0 p1 p2 = some r) : AM l E 1 mi_C_power [.long p1, .int p2] h0 (some (.long r)) h0 :=
  am_of2 [(.long p1, true), (.int p2, false)] 3 ⟨rfl, rfl, trivial⟩ rfl rfl (v_C_power (Nat.le_refl _) (Nat.le_refl _) (fun pc L hd => ax_lret rfl hd rfl) hf)
theorem v_He_chancesOfGoing {l : Launch} {E : EN} {R : Room} {B : (Nat × Nat) × (Nat × Nat)} {Qf : QF} {h0 : AH} {o : Nat} {p1 : Int32} {r : Int64} (hR1 : 2 ≤ R.frames) (hR2 : 128 ≤ R.locals) (Hr : ∀ (pc : Nat) (L : List (Option Value)), decode mi_He_chancesOfGoing.2.1 pc = .ok (.lreturn, 1) → AW l E mi_He_chancesOfGoing R B Qf pc L [.long r] h0) (hf : f_He_chancesOfGoing h0 o p1 = some r) : AW l E mi_He_chancesOfGoing R B Qf 0 [some (va_rf (some o)), some (.int p1)] [] h0 := by
  unfold f_He_chancesOfGoing at hf
  refine ax_ldc2 w_848 dHe_chancesOfGoing_0 ?_
  refine ax_iload_n (i := 1) dHe_chancesOfGoing_3 rfl rfl ?_
  replace hf := bd1_s hf
  obtain ⟨x1, e_x1, hf⟩ := hf
  refine ax_callS (As := [.long (10 : Int64), .int p1]) (rest := []) (c_C_power e_x1) ml_849 cm_C_power (Nat.le_trans (Nat.le_of_ble_eq_true rfl) hR1) (Nat.le_trans (Nat.le_of_ble_eq_true rfl) hR2) rfl rfl (Nat.le_of_ble_eq_true rfl) dHe_chancesOfGoing_4 ?_
  refine ax_aload_n (i := 0) (some o) dHe_chancesOfGoing_7 rfl rfl ?_
  replace hf := bd1_s hf
  obtain ⟨r2, e_r2, hf⟩ := hf
  refine ax_getR fl_702 rfl dHe_chancesOfGoing_8 e_r2 ?_
  refine ax_iconst (1 : Int32) dHe_chancesOfGoing_11 k32_1 ?_
  replace hf := bd1_s hf
  obtain ⟨a3, e_d, hf⟩ := hf
  subst e_d
  replace hf := bd1_s hf
  obtain ⟨x4, e_x4, hf⟩ := hf
  refine ax_iald dHe_chancesOfGoing_12 e_x4 ?_
  refine ax_i2l dHe_chancesOfGoing_13 ?_
  refine ax_iload_n (i := 1) dHe_chancesOfGoing_14 rfl rfl ?_
  replace hf := bd1_s hf
  obtain ⟨x5, e_x5, hf⟩ := hf
  refine ax_callS (As := [.long ((x4).toInt64), .int p1]) (rest := [.long x1]) (c_C_power e_x5) ml_849 cm_C_power (Nat.le_trans (Nat.le_of_ble_eq_true rfl) hR1) (Nat.le_trans (Nat.le_of_ble_eq_true rfl) hR2) rfl rfl (Nat.le_of_ble_eq_true rfl) dHe_chancesOfGoing_15 ?_
  refine ax_lsub dHe_chancesOfGoing_18 ?_
  cases hf
  exact Hr _ _ dHe_chancesOfGoing_19
theorem c_He_chancesOfGoing {l : Launch} {E : EN} {h0 : AH} {o : Nat} {p1 : Int32} {r : Int64} (hf : f_He_chancesOfGoing h0 o p1 = some r) : AM l E 2 mi_He_chancesOfGoing [va_rf (some o), .int p1] h0 (some (.long r)) h0 :=
  am_of2 [(va_rf (some o), false), (.int p1, false)] 0 ⟨cat_rf _, rfl, trivial⟩ rfl rfl (v_He_chancesOfGoing (Nat.le_refl _) (Nat.le_refl _) (fun pc L hd => ax_lret rfl hd rfl) hf)
theorem w_C_lowest_L9 {l : Launch} {E : EN} {R : Room} {B : (Nat × Nat) × (Nat × Nat)} {Qf : QF} {h0 : AH} {ρ : Type} {res : ρ} (hR1 : 1 ≤ R.frames) (hR2 : 64 ≤ R.locals) {y0 : Int64} {y2 : Int64} {y4 : Int32} {k : Int64 → Option (ρ)} (hk : ∀ (z5 : Int64), k z5 = some res → AW l E mi_C_lowest R B Qf 45 [some (.long y0), none, some (.long y2), none, some (.int y4), some (.long z5), none, none, none, none, none, none] [] h0) : ∀ (n : Nat) (z5 : Int64) (z7 : Int64) (z9 : Int32), f_C_lowest_L9 h0 y0 y2 y4 k n z5 z7 z9 = some res → AW l E mi_C_lowest R B Qf 9 [some (.long y0), none, some (.long y2), none, some (.int y4), some (.long z5), none, some (.long z7), none, some (.int z9), none, none] [] h0 := by
  intro n
  induction n with
  | zero => intro z5 z7 z9 hf; cases hf
  | succ n ih =>
    intro z5 z7 z9 hf
    rw [f_C_lowest_L9] at hf
    refine ax_iload (i := 9) dC_lowest_9 rfl ?_
    refine ax_sipush (200 : Int32) dC_lowest_11 k16_200 ?_
    replace hf := ite_c hf
    rcases hf with ⟨hc, hf⟩ | ⟨hc, hf⟩
    · refine ax_icmp_geF 45 dC_lowest_14 (by decide) hc ?_
      refine ax_lload (i := 7) dC_lowest_17 rfl ?_
      refine ax_lconst (0 : Int64) dC_lowest_19 kl_0 ?_
      refine ax_lcmp dC_lowest_20 ?_
      replace hf := ite_c hf
      rcases hf with ⟨hc, hf⟩ | ⟨hc, hf⟩
      · refine ax_if_eqT 45 dC_lowest_21 (by decide) hc ?_
        refine ax_mask [true, true, true, true, true, true, true, false, true, false, true, true] rfl [some (.long y0), none, some (.long y2), none, some (.int y4), some (.long z5), none, none, none, none, none, none] rfl ?_
        exact hk z5 hf
      · refine ax_if_eqF 45 dC_lowest_21 (by decide) hc ?_
        refine ax_lload (i := 5) dC_lowest_24 rfl ?_
        refine ax_lload (i := 7) dC_lowest_26 rfl ?_
        replace hf := ite_s hf
        obtain ⟨e_g28, hf⟩ := hf
        refine ax_lrem dC_lowest_28 e_g28 ?_
        replace hf := bd1_s hf
        obtain ⟨x1, e_x1, hf⟩ := hf
        refine ax_nmJ (Option.some.inj e_x1) ?_
        refine ax_lstore (i := 10) [some (.long y0), none, some (.long y2), none, some (.int y4), some (.long z5), none, some (.long z7), none, some (.int z9), some (.long x1), none] dC_lowest_29 (Nat.le_of_ble_eq_true rfl) (Or.inr (c1i rfl)) rfl ?_
        refine ax_lload (i := 7) dC_lowest_31 rfl ?_
        refine ax_lstore (i := 5) [some (.long y0), none, some (.long y2), none, some (.int y4), some (.long z7), none, some (.long z7), none, some (.int z9), some (.long x1), none] dC_lowest_33 (Nat.le_of_ble_eq_true rfl) (Or.inr (c1i rfl)) rfl ?_
        refine ax_lload (i := 10) dC_lowest_35 rfl ?_
        refine ax_lstore (i := 7) [some (.long y0), none, some (.long y2), none, some (.int y4), some (.long z7), none, some (.long x1), none, some (.int z9), some (.long x1), none] dC_lowest_37 (Nat.le_of_ble_eq_true rfl) (Or.inr (c1n rfl)) rfl ?_
        refine ax_iinc (i := 9) (z9 + (1 : Int32)) [some (.long y0), none, some (.long y2), none, some (.int y4), some (.long z7), none, some (.long x1), none, some (.int (z9 + (1 : Int32))), some (.long x1), none] dC_lowest_39 rfl (iic k32_1) (Or.inr (c1n rfl)) rfl ?_
        refine ax_goto 9 dC_lowest_42 (by decide) ?_
        refine ax_mask [true, true, true, true, true, true, true, true, true, true, false, true] rfl [some (.long y0), none, some (.long y2), none, some (.int y4), some (.long z7), none, some (.long x1), none, some (.int (z9 + (1 : Int32))), none, none] rfl ?_
        exact ih z7 x1 (z9 + (1 : Int32)) hf
    · refine ax_icmp_geT 45 dC_lowest_14 (by decide) hc ?_
      refine ax_mask [true, true, true, true, true, true, true, false, true, false, true, true] rfl [some (.long y0), none, some (.long y2), none, some (.int y4), some (.long z5), none, none, none, none, none, none] rfl ?_
      exact hk z5 hf
theorem v_C_lowest {l : Launch} {E : EN} {R : Room} {B : (Nat × Nat) × (Nat × Nat)} {Qf : QF} {h0 : AH} {p1 : Int64} {p2 : Int64} {p3 : Int32} {r : Int64} (hR1 : 1 ≤ R.frames) (hR2 : 64 ≤ R.locals) (Hr : ∀ (pc : Nat) (L : List (Option Value)), decode mi_C_lowest.2.1 pc = .ok (.lreturn, 1) → AW l E mi_C_lowest R B Qf pc L [.long r] h0) (hf : f_C_lowest h0 p1 p2 p3 = some r) : AW l E mi_C_lowest R B Qf 0 [some (.long p1), none, some (.long p2), none, some (.int p3), none, none, none, none, none, none, none] [] h0 := by
  unfold f_C_lowest at hf
  refine ax_lload_n (i := 0) dC_lowest_0 rfl rfl ?_
  refine ax_lstore (i := 5) [some (.long p1), none, some (.long p2), none, some (.int p3), some (.long p1), none, none, none, none, none, none] dC_lowest_1 (Nat.le_of_ble_eq_true rfl) (Or.inr (c1i rfl)) rfl ?_
  refine ax_lload_n (i := 2) dC_lowest_3 rfl rfl ?_
  refine ax_lstore (i := 7) [some (.long p1), none, some (.long p2), none, some (.int p3), some (.long p1), none, some (.long p2), none, none, none, none] dC_lowest_4 (Nat.le_of_ble_eq_true rfl) (Or.inr (c1n rfl)) rfl ?_
  refine ax_iconst (0 : Int32) dC_lowest_6 k32_0 ?_
  refine ax_istore (i := 9) [some (.long p1), none, some (.long p2), none, some (.int p3), some (.long p1), none, some (.long p2), none, some (.int (0 : Int32)), none, none] dC_lowest_7 (Nat.le_of_ble_eq_true rfl) (Or.inr (c1n rfl)) rfl ?_
  refine w_C_lowest_L9 hR1 hR2 (fun x2 hf => ?_) FU p1 p2 (0 : Int32) hf
  refine ax_iload (i := 4) dC_lowest_45 rfl ?_
  replace hf := bd1_s hf
  obtain ⟨x3, hT, hf⟩ := hf
  have K : AW l E mi_C_lowest R B Qf 55 [none, none, none, none, none, some (.long x2), none, none, none, none, none, none] [.long x3] h0 := by
    clear hT
    refine ax_lstore (i := 9) [none, none, none, none, none, some (.long x2), none, none, none, some (.long x3), none, none] dC_lowest_55 (Nat.le_of_ble_eq_true rfl) (Or.inr (c1n rfl)) rfl ?_
    refine ax_lload (i := 5) dC_lowest_57 rfl ?_
    refine ax_lconst (0 : Int64) dC_lowest_59 kl_0 ?_
    refine ax_lcmp dC_lowest_60 ?_
    replace hf := ite_c hf
    rcases hf with ⟨hc, hf⟩ | ⟨hc, hf⟩
    · refine ax_if_neF 69 dC_lowest_61 (by decide) hc ?_
      refine ax_lload (i := 9) dC_lowest_64 rfl ?_
      refine ax_goto 74 dC_lowest_66 (by decide) ?_
      cases hf
      exact Hr _ _ dC_lowest_74
    · refine ax_if_neT 69 dC_lowest_61 (by decide) hc ?_
      refine ax_lload (i := 9) dC_lowest_69 rfl ?_
      refine ax_lload (i := 5) dC_lowest_71 rfl ?_
      replace hf := ite_s hf
      obtain ⟨e_g73, hf⟩ := hf
      refine ax_ldiv dC_lowest_73 e_g73 ?_
      cases hf
      exact Hr _ _ dC_lowest_74
  replace hf := hT
  clear hT
  replace hf := ite_c hf
  rcases hf with ⟨hc, hf⟩ | ⟨hc, hf⟩
  · refine ax_if_neF 54 dC_lowest_47 (by decide) hc ?_
    refine ax_lload_n (i := 0) dC_lowest_50 rfl rfl ?_
    refine ax_goto 55 dC_lowest_51 (by decide) ?_
    refine ax_mask [false, true, false, true, false, true, true, true, true, true, true, true] rfl [none, none, none, none, none, some (.long x2), none, none, none, none, none, none] rfl ?_
    cases hf
    exact K
  · refine ax_if_neT 54 dC_lowest_47 (by decide) hc ?_
    refine ax_lload_n (i := 2) dC_lowest_54 rfl rfl ?_
    refine ax_mask [false, true, false, true, false, true, true, true, true, true, true, true] rfl [none, none, none, none, none, some (.long x2), none, none, none, none, none, none] rfl ?_
    cases hf
    exact K
theorem c_C_lowest {l : Launch} {E : EN} {h0 : AH} {p1 : Int64} {p2 : Int64} {p3 : Int32} {r : Int64} (hf : f_C_lowest h0 p1 p2 p3 = some r) : AM l E 1 mi_C_lowest [.long p1, .long p2, .int p3] h0 (some (.long r)) h0 :=
  am_of2 [(.long p1, true), (.long p2, true), (.int p3, false)] 7 ⟨rfl, rfl, rfl, trivial⟩ rfl rfl (v_C_lowest (Nat.le_refl _) (Nat.le_refl _) (fun pc L hd => ax_lret rfl hd rfl) hf)
theorem w_C_chance_L26 {l : Launch} {E : EN} {R : Room} {B : (Nat × Nat) × (Nat × Nat)} {Qf : QF} {h0 : AH} {ρ : Type} {res : ρ} (hR1 : 3 ≤ R.frames) (hR2 : 192 ≤ R.locals) {y0 : Nat} {y1 : Int32} {y2 : Int32} {k : Int64 → Int64 → Option (ρ)} (hk : ∀ (z3 : Int64) (z5 : Int64), k z3 z5 = some res → AW l E mi_C_chance R B Qf 72 [none, none, some (.int y2), some (.long z3), none, some (.long z5), none, none] [] h0) : ∀ (n : Nat) (z3 : Int64) (z5 : Int64) (z7 : Int32), f_C_chance_L26 h0 y0 y1 y2 k n z3 z5 z7 = some res → AW l E mi_C_chance R B Qf 26 [some (va_rf (some y0)), some (.int y1), some (.int y2), some (.long z3), none, some (.long z5), none, some (.int z7)] [] h0 := by
  intro n
  induction n with
  | zero => intro z3 z5 z7 hf; cases hf
  | succ n ih =>
    intro z3 z5 z7 hf
    rw [f_C_chance_L26] at hf
    refine ax_iload (i := 7) dC_chance_26 rfl ?_
    refine ax_aload_n (i := 0) (some y0) dC_chance_28 rfl rfl ?_
    replace hf := bd1_s hf
    obtain ⟨r3, e_r3, hf⟩ := hf
    refine ax_getR fl_329 rfl dC_chance_29 e_r3 ?_
    replace hf := bd1_s hf
    obtain ⟨a4, e_d, hf⟩ := hf
    subst e_d
    replace hf := bd1_s hf
    obtain ⟨x5, e_x5, hf⟩ := hf
    refine ax_getI fl_245 rfl dC_chance_32 e_x5 ?_
    replace hf := ite_c hf
    rcases hf with ⟨hc, hf⟩ | ⟨hc, hf⟩
    · refine ax_icmp_geF 72 dC_chance_35 (by decide) hc ?_
      refine ax_lload_n (i := 3) dC_chance_38 rfl rfl ?_
      refine ax_aload_n (i := 0) (some y0) dC_chance_39 rfl rfl ?_
      replace hf := bd1_s hf
      obtain ⟨r6, e_r6, hf⟩ := hf
      refine ax_getR fl_329 rfl dC_chance_40 e_r6 ?_
      refine ax_iload (i := 7) dC_chance_43 rfl ?_
      replace hf := bd1_s hf
      obtain ⟨a7, e_d, hf⟩ := hf
      subst e_d
      replace hf := bd1_s hf
      obtain ⟨r8, e_r8, hf⟩ := hf
      obtain ⟨k_e_r8, e_r8⟩ := cv_s e_r8
      refine ax_callV (As := [.int z7]) (rest := [.long z3]) (c_Ro_helperAt e_r8) ml_843 cm_Ro_helperAt rfl k_e_r8 (Nat.le_trans (Nat.le_of_ble_eq_true rfl) hR1) (Nat.le_trans (Nat.le_of_ble_eq_true rfl) hR2) rfl rfl (Nat.le_of_ble_eq_true rfl) dC_chance_45 ?_
      refine ax_iload_n (i := 1) dC_chance_48 rfl rfl ?_
      replace hf := bd1_s hf
      obtain ⟨a9, e_d, hf⟩ := hf
      subst e_d
      replace hf := bd1_s hf
      obtain ⟨x10, e_x10, hf⟩ := hf
      obtain ⟨k_e_x10, e_x10⟩ := cv_s e_x10
      refine ax_callV (As := [.int y1]) (rest := [.long z3]) (c_He_chancesOfGoing e_x10) ml_844 cm_He_chancesOfGoing rfl k_e_x10 (Nat.le_trans (Nat.le_of_ble_eq_true rfl) hR1) (Nat.le_trans (Nat.le_of_ble_eq_true rfl) hR2) rfl rfl (Nat.le_of_ble_eq_true rfl) dC_chance_49 ?_
      refine ax_lmul dC_chance_52 ?_
      replace hf := bd1_s hf
      obtain ⟨x11, e_x11, hf⟩ := hf
      refine ax_nmJ (Option.some.inj e_x11) ?_
      refine ax_lstore_n (i := 3) [some (va_rf (some y0)), some (.int y1), some (.int y2), some (.long x11), none, some (.long z5), none, some (.int z7)] dC_chance_53 rfl (Nat.le_of_ble_eq_true rfl) (Or.inr (c1i rfl)) rfl ?_
      refine ax_lload (i := 5) dC_chance_54 rfl ?_
      refine ax_ldc2 w_852 dC_chance_56 ?_
      refine ax_iload_n (i := 1) dC_chance_59 rfl rfl ?_
      replace hf := bd1_s hf
      obtain ⟨x12, e_x12, hf⟩ := hf
      refine ax_callS (As := [.long (10 : Int64), .int y1]) (rest := [.long z5]) (c_C_power e_x12) ml_853 cm_C_power (Nat.le_trans (Nat.le_of_ble_eq_true rfl) hR1) (Nat.le_trans (Nat.le_of_ble_eq_true rfl) hR2) rfl rfl (Nat.le_of_ble_eq_true rfl) dC_chance_60 ?_
      refine ax_lmul dC_chance_63 ?_
      replace hf := bd1_s hf
      obtain ⟨x13, e_x13, hf⟩ := hf
      refine ax_nmJ (Option.some.inj e_x13) ?_
      refine ax_lstore (i := 5) [some (va_rf (some y0)), some (.int y1), some (.int y2), some (.long x11), none, some (.long x13), none, some (.int z7)] dC_chance_64 (Nat.le_of_ble_eq_true rfl) (Or.inr (c1n rfl)) rfl ?_
      refine ax_iinc (i := 7) (z7 + (1 : Int32)) [some (va_rf (some y0)), some (.int y1), some (.int y2), some (.long x11), none, some (.long x13), none, some (.int (z7 + (1 : Int32)))] dC_chance_66 rfl (iic k32_1) (Or.inr (c1n rfl)) rfl ?_
      refine ax_goto 26 dC_chance_69 (by decide) ?_
      exact ih x11 x13 (z7 + (1 : Int32)) hf
    · refine ax_icmp_geT 72 dC_chance_35 (by decide) hc ?_
      refine ax_mask [false, false, true, true, true, true, true, false] rfl [none, none, some (.int y2), some (.long z3), none, some (.long z5), none, none] rfl ?_
      exact hk z3 z5 hf
theorem v_C_chance {l : Launch} {E : EN} {R : Room} {B : (Nat × Nat) × (Nat × Nat)} {Qf : QF} {h0 : AH} {o : Nat} {p1 : Int32} {p2 : Int32} {r : Int64} (hR1 : 3 ≤ R.frames) (hR2 : 192 ≤ R.locals) (Hr : ∀ (pc : Nat) (L : List (Option Value)), decode mi_C_chance.2.1 pc = .ok (.lreturn, 1) → AW l E mi_C_chance R B Qf pc L [.long r] h0) (hf : f_C_chance h0 o p1 p2 = some r) : AW l E mi_C_chance R B Qf 0 [some (va_rf (some o)), some (.int p1), some (.int p2), none, none, none, none, none] [] h0 := by
  unfold f_C_chance at hf
  refine ax_iload_n (i := 1) dC_chance_0 rfl rfl ?_
  replace hf := bd1_s hf
  obtain ⟨x1, e_x1, hf⟩ := hf
  refine ax_callS (As := [.int p1]) (rest := []) (c_C_isTries e_x1) ml_836 cm_C_isTries (Nat.le_trans (Nat.le_of_ble_eq_true rfl) hR1) (Nat.le_trans (Nat.le_of_ble_eq_true rfl) hR2) rfl rfl (Nat.le_of_ble_eq_true rfl) dC_chance_1 ?_
  replace hf := ite_c hf
  rcases hf with ⟨hc, hf⟩ | ⟨hc, hf⟩
  · refine ax_if_eqT 14 dC_chance_4 (by decide) hc ?_
    refine ax_ldc2 w_842 dC_chance_14 ?_
    cases hf
    exact Hr _ _ dC_chance_17
  · refine ax_if_eqF 14 dC_chance_4 (by decide) hc ?_
    refine ax_iload_n (i := 2) dC_chance_7 rfl rfl ?_
    replace hf := bd1_s hf
    obtain ⟨x2, e_x2, hf⟩ := hf
    refine ax_callS (As := [.int p2]) (rest := []) (c_C_isPart e_x2) ml_839 cm_C_isPart (Nat.le_trans (Nat.le_of_ble_eq_true rfl) hR1) (Nat.le_trans (Nat.le_of_ble_eq_true rfl) hR2) rfl rfl (Nat.le_of_ble_eq_true rfl) dC_chance_8 ?_
    replace hf := ite_c hf
    rcases hf with ⟨hc, hf⟩ | ⟨hc, hf⟩
    · refine ax_if_neF 18 dC_chance_11 (by decide) hc ?_
      refine ax_ldc2 w_842 dC_chance_14 ?_
      cases hf
      exact Hr _ _ dC_chance_17
    · refine ax_if_neT 18 dC_chance_11 (by decide) hc ?_
      refine ax_lconst (1 : Int64) dC_chance_18 kl_1 ?_
      refine ax_lstore_n (i := 3) [some (va_rf (some o)), some (.int p1), some (.int p2), some (.long (1 : Int64)), none, none, none, none] dC_chance_19 rfl (Nat.le_of_ble_eq_true rfl) (Or.inr (c1i rfl)) rfl ?_
      refine ax_lconst (1 : Int64) dC_chance_20 kl_1 ?_
      refine ax_lstore (i := 5) [some (va_rf (some o)), some (.int p1), some (.int p2), some (.long (1 : Int64)), none, some (.long (1 : Int64)), none, none] dC_chance_21 (Nat.le_of_ble_eq_true rfl) (Or.inr (c1n rfl)) rfl ?_
      refine ax_iconst (0 : Int32) dC_chance_23 k32_0 ?_
      refine ax_istore (i := 7) [some (va_rf (some o)), some (.int p1), some (.int p2), some (.long (1 : Int64)), none, some (.long (1 : Int64)), none, some (.int (0 : Int32))] dC_chance_24 (Nat.le_of_ble_eq_true rfl) (Or.inr (c1n rfl)) rfl ?_
      refine w_C_chance_L26 hR1 hR2 (fun x14 x15 hf => ?_) FU (1 : Int64) (1 : Int64) (0 : Int32) hf
      refine ax_lload_n (i := 3) dC_chance_72 rfl rfl ?_
      refine ax_lload (i := 5) dC_chance_73 rfl ?_
      refine ax_iload_n (i := 2) dC_chance_75 rfl rfl ?_
      replace hf := bd1_s hf
      obtain ⟨x16, e_x16, hf⟩ := hf
      refine ax_callS (As := [.long x14, .long x15, .int p2]) (rest := []) (c_C_lowest e_x16) ml_854 cm_C_lowest (Nat.le_trans (Nat.le_of_ble_eq_true rfl) hR1) (Nat.le_trans (Nat.le_of_ble_eq_true rfl) hR2) rfl rfl (Nat.le_of_ble_eq_true rfl) dC_chance_76 ?_
      cases hf
      exact Hr _ _ dC_chance_79
theorem c_C_chance {l : Launch} {E : EN} {h0 : AH} {o : Nat} {p1 : Int32} {p2 : Int32} {r : Int64} (hf : f_C_chance h0 o p1 p2 = some r) : AM l E 3 mi_C_chance [va_rf (some o), .int p1, .int p2] h0 (some (.long r)) h0 :=
  am_of2 [(va_rf (some o), false), (.int p1, false), (.int p2, false)] 5 ⟨cat_rf _, rfl, rfl, trivial⟩ rfl rfl (v_C_chance (Nat.le_refl _) (Nat.le_refl _) (fun pc L hd => ax_lret rfl hd rfl) hf)
theorem w_He_meanOfTries_L5 {l : Launch} {E : EN} {R : Room} {B : (Nat × Nat) × (Nat × Nat)} {Qf : QF} {h0 : AH} {ρ : Type} {res : ρ} (hR1 : 2 ≤ R.frames) (hR2 : 128 ≤ R.locals) {y0 : Nat} {y1 : Int32} {k : Int64 → Option (ρ)} (hk : ∀ (z2 : Int64), k z2 = some res → AW l E mi_He_meanOfTries R B Qf 43 [some (va_rf (some y0)), none, some (.long z2), none, none] [] h0) : ∀ (n : Nat) (z2 : Int64) (z4 : Int32), f_He_meanOfTries_L5 h0 y0 y1 k n z2 z4 = some res → AW l E mi_He_meanOfTries R B Qf 5 [some (va_rf (some y0)), some (.int y1), some (.long z2), none, some (.int z4)] [] h0 := by
  intro n
  induction n with
  | zero => intro z2 z4 hf; cases hf
  | succ n ih =>
    intro z2 z4 hf
    rw [f_He_meanOfTries_L5] at hf
    refine ax_iload (i := 4) dHe_meanOfTries_5 rfl ?_
    refine ax_iload_n (i := 1) dHe_meanOfTries_7 rfl rfl ?_
    replace hf := ite_c hf
    rcases hf with ⟨hc, hf⟩ | ⟨hc, hf⟩
    · refine ax_icmp_geF 43 dHe_meanOfTries_8 (by decide) hc ?_
      refine ax_lload_n (i := 2) dHe_meanOfTries_11 rfl rfl ?_
      refine ax_aload_n (i := 0) (some y0) dHe_meanOfTries_12 rfl rfl ?_
      replace hf := bd1_s hf
      obtain ⟨r1, e_r1, hf⟩ := hf
      refine ax_getR fl_702 rfl dHe_meanOfTries_13 e_r1 ?_
      refine ax_iconst (1 : Int32) dHe_meanOfTries_16 k32_1 ?_
      replace hf := bd1_s hf
      obtain ⟨a2, e_d, hf⟩ := hf
      subst e_d
      replace hf := bd1_s hf
      obtain ⟨x3, e_x3, hf⟩ := hf
      refine ax_iald dHe_meanOfTries_17 e_x3 ?_
      refine ax_i2l dHe_meanOfTries_18 ?_
      refine ax_iload (i := 4) dHe_meanOfTries_19 rfl ?_
      replace hf := bd1_s hf
      obtain ⟨x4, e_x4, hf⟩ := hf
      refine ax_callS (As := [.long ((x3).toInt64), .int z4]) (rest := [.long z2]) (c_C_power e_x4) ml_849 cm_C_power (Nat.le_trans (Nat.le_of_ble_eq_true rfl) hR1) (Nat.le_trans (Nat.le_of_ble_eq_true rfl) hR2) rfl rfl (Nat.le_of_ble_eq_true rfl) dHe_meanOfTries_21 ?_
      refine ax_ldc2 w_848 dHe_meanOfTries_24 ?_
      refine ax_iload_n (i := 1) dHe_meanOfTries_27 rfl rfl ?_
      refine ax_iload (i := 4) dHe_meanOfTries_28 rfl ?_
      refine ax_isub dHe_meanOfTries_30 ?_
      replace hf := bd1_s hf
      obtain ⟨x5, e_x5, hf⟩ := hf
      refine ax_callS (As := [.long (10 : Int64), .int (y1 - z4)]) (rest := [.long x4, .long z2]) (c_C_power e_x5) ml_849 cm_C_power (Nat.le_trans (Nat.le_of_ble_eq_true rfl) hR1) (Nat.le_trans (Nat.le_of_ble_eq_true rfl) hR2) rfl rfl (Nat.le_of_ble_eq_true rfl) dHe_meanOfTries_31 ?_
      refine ax_lmul dHe_meanOfTries_34 ?_
      refine ax_ladd dHe_meanOfTries_35 ?_
      replace hf := bd1_s hf
      obtain ⟨x6, e_x6, hf⟩ := hf
      refine ax_nmJ (Option.some.inj e_x6) ?_
      refine ax_lstore_n (i := 2) [some (va_rf (some y0)), some (.int y1), some (.long x6), none, some (.int z4)] dHe_meanOfTries_36 rfl (Nat.le_of_ble_eq_true rfl) (Or.inr (c1i rfl)) rfl ?_
      refine ax_iinc (i := 4) (z4 + (1 : Int32)) [some (va_rf (some y0)), some (.int y1), some (.long x6), none, some (.int (z4 + (1 : Int32)))] dHe_meanOfTries_37 rfl (iic k32_1) (Or.inr (c1n rfl)) rfl ?_
      refine ax_goto 5 dHe_meanOfTries_40 (by decide) ?_
      exact ih x6 (z4 + (1 : Int32)) hf
    · refine ax_icmp_geT 43 dHe_meanOfTries_8 (by decide) hc ?_
      refine ax_mask [true, false, true, true, false] rfl [some (va_rf (some y0)), none, some (.long z2), none, none] rfl ?_
      exact hk z2 hf
theorem v_He_meanOfTries {l : Launch} {E : EN} {R : Room} {B : (Nat × Nat) × (Nat × Nat)} {Qf : QF} {h0 : AH} {o : Nat} {p1 : Int32} {r : Int64} (hR1 : 2 ≤ R.frames) (hR2 : 128 ≤ R.locals) (Hr : ∀ (pc : Nat) (L : List (Option Value)), decode mi_He_meanOfTries.2.1 pc = .ok (.lreturn, 1) → AW l E mi_He_meanOfTries R B Qf pc L [.long r] h0) (hf : f_He_meanOfTries h0 o p1 = some r) : AW l E mi_He_meanOfTries R B Qf 0 [some (va_rf (some o)), some (.int p1), none, none, none] [] h0 := by
  unfold f_He_meanOfTries at hf
  refine ax_lconst (0 : Int64) dHe_meanOfTries_0 kl_0 ?_
  refine ax_lstore_n (i := 2) [some (va_rf (some o)), some (.int p1), some (.long (0 : Int64)), none, none] dHe_meanOfTries_1 rfl (Nat.le_of_ble_eq_true rfl) (Or.inr (c1i rfl)) rfl ?_
  refine ax_iconst (0 : Int32) dHe_meanOfTries_2 k32_0 ?_
  refine ax_istore (i := 4) [some (va_rf (some o)), some (.int p1), some (.long (0 : Int64)), none, some (.int (0 : Int32))] dHe_meanOfTries_3 (Nat.le_of_ble_eq_true rfl) (Or.inr (c1n rfl)) rfl ?_
  refine w_He_meanOfTries_L5 hR1 hR2 (fun x7 hf => ?_) FU (0 : Int64) (0 : Int32) hf
  refine ax_aload_n (i := 0) (some o) dHe_meanOfTries_43 rfl rfl ?_
  replace hf := bd1_s hf
  obtain ⟨r8, e_r8, hf⟩ := hf
  refine ax_getR fl_702 rfl dHe_meanOfTries_44 e_r8 ?_
  refine ax_iconst (0 : Int32) dHe_meanOfTries_47 k32_0 ?_
  replace hf := bd1_s hf
  obtain ⟨a9, e_d, hf⟩ := hf
  subst e_d
  replace hf := bd1_s hf
  obtain ⟨x10, e_x10, hf⟩ := hf
  refine ax_iald dHe_meanOfTries_48 e_x10 ?_
  refine ax_i2l dHe_meanOfTries_49 ?_
  refine ax_lload_n (i := 2) dHe_meanOfTries_50 rfl rfl ?_
  refine ax_lmul dHe_meanOfTries_51 ?_
  cases hf
  exact Hr _ _ dHe_meanOfTries_52
theorem c_He_meanOfTries {l : Launch} {E : EN} {h0 : AH} {o : Nat} {p1 : Int32} {r : Int64} (hf : f_He_meanOfTries h0 o p1 = some r) : AM l E 2 mi_He_meanOfTries [va_rf (some o), .int p1] h0 (some (.long r)) h0 :=
  am_of2 [(va_rf (some o), false), (.int p1, false)] 3 ⟨cat_rf _, rfl, trivial⟩ rfl rfl (v_He_meanOfTries (Nat.le_refl _) (Nat.le_refl _) (fun pc L hd => ax_lret rfl hd rfl) hf)
theorem w_C_mean_L34 {l : Launch} {E : EN} {R : Room} {B : (Nat × Nat) × (Nat × Nat)} {Qf : QF} {h0 : AH} {ρ : Type} {res : ρ} (hR1 : 3 ≤ R.frames) (hR2 : 192 ≤ R.locals) {y0 : Nat} {y1 : Int32} {y2 : Int32} {k : Int64 → Int64 → Option (ρ)} (hk : ∀ (z3 : Int64) (z5 : Int64), k z3 z5 = some res → AW l E mi_C_mean R B Qf 87 [none, none, some (.int y2), some (.long z3), none, some (.long z5), none, none, none] [] h0) : ∀ (n : Nat) (z3 : Int64) (z5 : Int64) (z7 : Int32), f_C_mean_L34 h0 y0 y1 y2 k n z3 z5 z7 = some res → AW l E mi_C_mean R B Qf 34 [some (va_rf (some y0)), some (.int y1), some (.int y2), some (.long z3), none, some (.long z5), none, some (.int z7), none] [] h0 := by
  intro n
  induction n with
  | zero => intro z3 z5 z7 hf; cases hf
  | succ n ih =>
    intro z3 z5 z7 hf
    rw [f_C_mean_L34] at hf
    refine ax_iload (i := 7) dC_mean_34 rfl ?_
    replace hf := ite_c hf
    rcases hf with ⟨hc, hf⟩ | ⟨hc, hf⟩
    · refine ax_if_ltT 87 dC_mean_36 (by decide) hc ?_
      refine ax_mask [false, false, true, true, true, true, true, false, true] rfl [none, none, some (.int y2), some (.long z3), none, some (.long z5), none, none, none] rfl ?_
      exact hk z3 z5 hf
    · refine ax_if_ltF 87 dC_mean_36 (by decide) hc ?_
      refine ax_aload_n (i := 0) (some y0) dC_mean_39 rfl rfl ?_
      replace hf := bd1_s hf
      obtain ⟨r7, e_r7, hf⟩ := hf
      refine ax_getR fl_329 rfl dC_mean_40 e_r7 ?_
      refine ax_iload (i := 7) dC_mean_43 rfl ?_
      replace hf := bd1_s hf
      obtain ⟨a8, e_d, hf⟩ := hf
      subst e_d
      replace hf := bd1_s hf
      obtain ⟨r9, e_r9, hf⟩ := hf
      obtain ⟨k_e_r9, e_r9⟩ := cv_s e_r9
      refine ax_callV (As := [.int z7]) (rest := []) (c_Ro_helperAt e_r9) ml_843 cm_Ro_helperAt rfl k_e_r9 (Nat.le_trans (Nat.le_of_ble_eq_true rfl) hR1) (Nat.le_trans (Nat.le_of_ble_eq_true rfl) hR2) rfl rfl (Nat.le_of_ble_eq_true rfl) dC_mean_45 ?_
      refine ax_astore (i := 8) (r := r9) [some (va_rf (some y0)), some (.int y1), some (.int y2), some (.long z3), none, some (.long z5), none, some (.int z7), some (va_rf r9)] dC_mean_48 (Nat.le_of_ble_eq_true rfl) (Or.inr (c1i rfl)) rfl ?_
      refine ax_aload (i := 8) r9 dC_mean_50 rfl ?_
      refine ax_iload_n (i := 1) dC_mean_52 rfl rfl ?_
      replace hf := bd1_s hf
      obtain ⟨a10, e_d, hf⟩ := hf
      subst e_d
      replace hf := bd1_s hf
      obtain ⟨x11, e_x11, hf⟩ := hf
      obtain ⟨k_e_x11, e_x11⟩ := cv_s e_x11
      refine ax_callV (As := [.int y1]) (rest := []) (c_He_meanOfTries e_x11) ml_861 cm_He_meanOfTries rfl k_e_x11 (Nat.le_trans (Nat.le_of_ble_eq_true rfl) hR1) (Nat.le_trans (Nat.le_of_ble_eq_true rfl) hR2) rfl rfl (Nat.le_of_ble_eq_true rfl) dC_mean_53 ?_
      refine ax_lload (i := 5) dC_mean_56 rfl ?_
      refine ax_lmul dC_mean_58 ?_
      refine ax_aload (i := 8) (some a10) dC_mean_59 rfl ?_
      refine ax_iload_n (i := 1) dC_mean_61 rfl rfl ?_
      replace hf := bd1_s hf
      obtain ⟨x12, e_x12, hf⟩ := hf
      obtain ⟨k_e_x12, e_x12⟩ := cv_s e_x12
      refine ax_callV (As := [.int y1]) (rest := [.long (x11 * z5)]) (c_He_chancesOfGoing e_x12) ml_844 cm_He_chancesOfGoing rfl k_e_x12 (Nat.le_trans (Nat.le_of_ble_eq_true rfl) hR1) (Nat.le_trans (Nat.le_of_ble_eq_true rfl) hR2) rfl rfl (Nat.le_of_ble_eq_true rfl) dC_mean_62 ?_
      refine ax_lload_n (i := 3) dC_mean_65 rfl rfl ?_
      refine ax_lmul dC_mean_66 ?_
      refine ax_ladd dC_mean_67 ?_
      replace hf := bd1_s hf
      obtain ⟨x13, e_x13, hf⟩ := hf
      refine ax_nmJ (Option.some.inj e_x13) ?_
      refine ax_lstore_n (i := 3) [some (va_rf (some y0)), some (.int y1), some (.int y2), some (.long x13), none, some (.long z5), none, some (.int z7), some (va_rf (some a10))] dC_mean_68 rfl (Nat.le_of_ble_eq_true rfl) (Or.inr (c1i rfl)) rfl ?_
      refine ax_lload (i := 5) dC_mean_69 rfl ?_
      refine ax_ldc2 w_852 dC_mean_71 ?_
      refine ax_iload_n (i := 1) dC_mean_74 rfl rfl ?_
      replace hf := bd1_s hf
      obtain ⟨x14, e_x14, hf⟩ := hf
      refine ax_callS (As := [.long (10 : Int64), .int y1]) (rest := [.long z5]) (c_C_power e_x14) ml_853 cm_C_power (Nat.le_trans (Nat.le_of_ble_eq_true rfl) hR1) (Nat.le_trans (Nat.le_of_ble_eq_true rfl) hR2) rfl rfl (Nat.le_of_ble_eq_true rfl) dC_mean_75 ?_
      refine ax_lmul dC_mean_78 ?_
      replace hf := bd1_s hf
      obtain ⟨x15, e_x15, hf⟩ := hf
      refine ax_nmJ (Option.some.inj e_x15) ?_
      refine ax_lstore (i := 5) [some (va_rf (some y0)), some (.int y1), some (.int y2), some (.long x13), none, some (.long x15), none, some (.int z7), some (va_rf (some a10))] dC_mean_79 (Nat.le_of_ble_eq_true rfl) (Or.inr (c1n rfl)) rfl ?_
      refine ax_iinc (i := 7) (z7 + (-1 : Int32)) [some (va_rf (some y0)), some (.int y1), some (.int y2), some (.long x13), none, some (.long x15), none, some (.int (z7 + (-1 : Int32))), some (va_rf (some a10))] dC_mean_81 rfl (iic k32_m1) (Or.inr (c1n rfl)) rfl ?_
      refine ax_goto 34 dC_mean_84 (by decide) ?_
      refine ax_mask [true, true, true, true, true, true, true, true, false] rfl [some (va_rf (some y0)), some (.int y1), some (.int y2), some (.long x13), none, some (.long x15), none, some (.int (z7 + (-1 : Int32))), none] rfl ?_
      exact ih x13 x15 (z7 + (-1 : Int32)) hf
theorem v_C_mean {l : Launch} {E : EN} {R : Room} {B : (Nat × Nat) × (Nat × Nat)} {Qf : QF} {h0 : AH} {o : Nat} {p1 : Int32} {p2 : Int32} {r : Int64} (hR1 : 3 ≤ R.frames) (hR2 : 192 ≤ R.locals) (Hr : ∀ (pc : Nat) (L : List (Option Value)), decode mi_C_mean.2.1 pc = .ok (.lreturn, 1) → AW l E mi_C_mean R B Qf pc L [.long r] h0) (hf : f_C_mean h0 o p1 p2 = some r) : AW l E mi_C_mean R B Qf 0 [some (va_rf (some o)), some (.int p1), some (.int p2), none, none, none, none, none, none] [] h0 := by
  unfold f_C_mean at hf
  refine ax_iload_n (i := 1) dC_mean_0 rfl rfl ?_
  replace hf := bd1_s hf
  obtain ⟨x1, e_x1, hf⟩ := hf
  refine ax_callS (As := [.int p1]) (rest := []) (c_C_isTries e_x1) ml_836 cm_C_isTries (Nat.le_trans (Nat.le_of_ble_eq_true rfl) hR1) (Nat.le_trans (Nat.le_of_ble_eq_true rfl) hR2) rfl rfl (Nat.le_of_ble_eq_true rfl) dC_mean_1 ?_
  replace hf := ite_c hf
  rcases hf with ⟨hc, hf⟩ | ⟨hc, hf⟩
  · refine ax_if_eqT 14 dC_mean_4 (by decide) hc ?_
    refine ax_ldc2 w_842 dC_mean_14 ?_
    cases hf
    exact Hr _ _ dC_mean_17
  · refine ax_if_eqF 14 dC_mean_4 (by decide) hc ?_
    refine ax_iload_n (i := 2) dC_mean_7 rfl rfl ?_
    replace hf := bd1_s hf
    obtain ⟨x2, e_x2, hf⟩ := hf
    refine ax_callS (As := [.int p2]) (rest := []) (c_C_isPart e_x2) ml_839 cm_C_isPart (Nat.le_trans (Nat.le_of_ble_eq_true rfl) hR1) (Nat.le_trans (Nat.le_of_ble_eq_true rfl) hR2) rfl rfl (Nat.le_of_ble_eq_true rfl) dC_mean_8 ?_
    replace hf := ite_c hf
    rcases hf with ⟨hc, hf⟩ | ⟨hc, hf⟩
    · refine ax_if_neF 18 dC_mean_11 (by decide) hc ?_
      refine ax_ldc2 w_842 dC_mean_14 ?_
      cases hf
      exact Hr _ _ dC_mean_17
    · refine ax_if_neT 18 dC_mean_11 (by decide) hc ?_
      refine ax_lconst (0 : Int64) dC_mean_18 kl_0 ?_
      refine ax_lstore_n (i := 3) [some (va_rf (some o)), some (.int p1), some (.int p2), some (.long (0 : Int64)), none, none, none, none, none] dC_mean_19 rfl (Nat.le_of_ble_eq_true rfl) (Or.inr (c1i rfl)) rfl ?_
      refine ax_lconst (1 : Int64) dC_mean_20 kl_1 ?_
      refine ax_lstore (i := 5) [some (va_rf (some o)), some (.int p1), some (.int p2), some (.long (0 : Int64)), none, some (.long (1 : Int64)), none, none, none] dC_mean_21 (Nat.le_of_ble_eq_true rfl) (Or.inr (c1n rfl)) rfl ?_
      refine ax_aload_n (i := 0) (some o) dC_mean_23 rfl rfl ?_
      replace hf := bd1_s hf
      obtain ⟨r3, e_r3, hf⟩ := hf
      refine ax_getR fl_329 rfl dC_mean_24 e_r3 ?_
      replace hf := bd1_s hf
      obtain ⟨a4, e_d, hf⟩ := hf
      subst e_d
      replace hf := bd1_s hf
      obtain ⟨x5, e_x5, hf⟩ := hf
      refine ax_getI fl_245 rfl dC_mean_27 e_x5 ?_
      refine ax_iconst (1 : Int32) dC_mean_30 k32_1 ?_
      refine ax_isub dC_mean_31 ?_
      replace hf := bd1_s hf
      obtain ⟨x6, e_x6, hf⟩ := hf
      refine ax_nmI (Option.some.inj e_x6) ?_
      refine ax_istore (i := 7) [some (va_rf (some o)), some (.int p1), some (.int p2), some (.long (0 : Int64)), none, some (.long (1 : Int64)), none, some (.int x6), none] dC_mean_32 (Nat.le_of_ble_eq_true rfl) (Or.inr (c1n rfl)) rfl ?_
      refine w_C_mean_L34 hR1 hR2 (fun x16 x17 hf => ?_) FU (0 : Int64) (1 : Int64) x6 hf
      refine ax_lload_n (i := 3) dC_mean_87 rfl rfl ?_
      refine ax_lload (i := 5) dC_mean_88 rfl ?_
      refine ax_iload_n (i := 2) dC_mean_90 rfl rfl ?_
      replace hf := bd1_s hf
      obtain ⟨x18, e_x18, hf⟩ := hf
      refine ax_callS (As := [.long x16, .long x17, .int p2]) (rest := []) (c_C_lowest e_x18) ml_854 cm_C_lowest (Nat.le_trans (Nat.le_of_ble_eq_true rfl) hR1) (Nat.le_trans (Nat.le_of_ble_eq_true rfl) hR2) rfl rfl (Nat.le_of_ble_eq_true rfl) dC_mean_91 ?_
      cases hf
      exact Hr _ _ dC_mean_94
theorem c_C_mean {l : Launch} {E : EN} {h0 : AH} {o : Nat} {p1 : Int32} {p2 : Int32} {r : Int64} (hf : f_C_mean h0 o p1 p2 = some r) : AM l E 3 mi_C_mean [va_rf (some o), .int p1, .int p2] h0 (some (.long r)) h0 :=
  am_of2 [(va_rf (some o), false), (.int p1, false), (.int p2, false)] 6 ⟨cat_rf _, rfl, rfl, trivial⟩ rfl rfl (v_C_mean (Nat.le_refl _) (Nat.le_refl _) (fun pc L hd => ax_lret rfl hd rfl) hf)
theorem w_Ro_isUndone_L17 {l : Launch} {E : EN} {R : Room} {B : (Nat × Nat) × (Nat × Nat)} {Qf : QF} {r : Int32} {hF : AH} (hR1 : 4 ≤ R.frames) (hR2 : 256 ≤ R.locals) (Hr : (r = 0 ∨ r = 1) → ∀ (pc : Nat) (L : List (Option Value)), decode mi_Ro_isUndone.2.1 pc = .ok (.ireturn, 1) → AW l E mi_Ro_isUndone R B Qf pc L [.int r] hF) {y0 : Nat} {y1 : Int32} {k : AH → Option (Int32 × AH)} (hk : ∀ (h : AH), k h = some (r, hF) → AW l E mi_Ro_isUndone R B Qf 81 [some (va_rf (some y0)), some (.int y1), none, none, none, none] [] h) : ∀ (n : Nat) (z3 : Int32) (h : AH), f_Ro_isUndone_L17 y0 y1 k n z3 h = some (r, hF) → AW l E mi_Ro_isUndone R B Qf 17 [some (va_rf (some y0)), some (.int y1), none, some (.int z3), none, none] [] h := by
  intro n
  induction n with
  | zero => intro z3 h hf; cases hf
  | succ n ih =>
    intro z3 h hf
    rw [f_Ro_isUndone_L17] at hf
    refine ax_iload_n (i := 3) dRo_isUndone_17 rfl rfl ?_
    replace hf := ite_c hf
    rcases hf with ⟨hc, hf⟩ | ⟨hc, hf⟩
    · refine ax_if_ltT 81 dRo_isUndone_18 (by decide) hc ?_
      refine ax_mask [true, true, true, false, true, true] rfl [some (va_rf (some y0)), some (.int y1), none, none, none, none] rfl ?_
      exact hk h hf
    · refine ax_if_ltF 81 dRo_isUndone_18 (by decide) hc ?_
      refine ax_aload_n (i := 0) (some y0) dRo_isUndone_21 rfl rfl ?_
      refine ax_iload_n (i := 3) dRo_isUndone_22 rfl rfl ?_
      replace hf := bd1_s hf
      obtain ⟨r8, e_r8, hf⟩ := hf
      obtain ⟨k_e_r8, e_r8⟩ := cv_s e_r8
      refine ax_callV (As := [.int z3]) (rest := []) (c_Ro_helperAt e_r8) ml_764 cm_Ro_helperAt rfl k_e_r8 (Nat.le_trans (Nat.le_of_ble_eq_true rfl) hR1) (Nat.le_trans (Nat.le_of_ble_eq_true rfl) hR2) rfl rfl (Nat.le_of_ble_eq_true rfl) dRo_isUndone_23 ?_
      replace hf := bd1_s hf
      obtain ⟨a9, e_d, hf⟩ := hf
      subst e_d
      replace hf := bd1_s hf
      obtain ⟨r10, e_r10, hf⟩ := hf
      refine ax_getR fl_704 rfl dRo_isUndone_26 e_r10 ?_
      refine ax_iconst (4 : Int32) dRo_isUndone_29 k32_4 ?_
      replace hf := bd1_s hf
      obtain ⟨a11, e_d, hf⟩ := hf
      subst e_d
      replace hf := bd1_s hf
      obtain ⟨x12, e_x12, hf⟩ := hf
      refine ax_iald dRo_isUndone_30 e_x12 ?_
      refine ax_istore (i := 4) [some (va_rf (some y0)), some (.int y1), none, some (.int z3), some (.int x12), none] dRo_isUndone_31 (Nat.le_of_ble_eq_true rfl) (Or.inr (c1i rfl)) rfl ?_
      refine ax_aload_n (i := 0) (some y0) dRo_isUndone_33 rfl rfl ?_
      refine ax_iload (i := 4) dRo_isUndone_34 rfl ?_
      replace hf := bd1_s hf
      obtain ⟨r13, e_r13, hf⟩ := hf
      obtain ⟨k_e_r13, e_r13⟩ := cv_s e_r13
      refine ax_callV (As := [.int x12]) (rest := []) (c_Ro_helperNumbered e_r13) ml_877 cm_Ro_helperNumbered rfl k_e_r13 (Nat.le_trans (Nat.le_of_ble_eq_true rfl) hR1) (Nat.le_trans (Nat.le_of_ble_eq_true rfl) hR2) rfl rfl (Nat.le_of_ble_eq_true rfl) dRo_isUndone_36 ?_
      refine ax_astore (i := 5) (r := r13) [some (va_rf (some y0)), some (.int y1), none, some (.int z3), some (.int x12), some (va_rf r13)] dRo_isUndone_39 (Nat.le_of_ble_eq_true rfl) (Or.inr (c1i rfl)) rfl ?_
      refine ax_aload (i := 5) r13 dRo_isUndone_41 rfl ?_
      replace hf := onl_s hf
      rcases hf with ⟨e_d, hf⟩ | ⟨a14, e_d, hf⟩
      · subst e_d
        refine ax_ifnullT 58 dRo_isUndone_43 (by decide) ?_
        refine ax_iconst (0 : Int32) dRo_isUndone_58 k32_0 ?_
        cases hf
        exact Hr (Or.inl rfl) _ _ dRo_isUndone_59
      · subst e_d
        refine ax_ifnullF dRo_isUndone_43 ?_
        refine ax_aload_n (i := 0) (some y0) dRo_isUndone_46 rfl rfl ?_
        replace hf := bd1_s hf
        obtain ⟨r15, e_r15, hf⟩ := hf
        refine ax_getR fl_247 rfl dRo_isUndone_47 e_r15 ?_
        refine ax_aload (i := 5) (some a14) dRo_isUndone_50 rfl ?_
        replace hf := bd1_s hf
        obtain ⟨a16, e_d, hf⟩ := hf
        subst e_d
        replace hf := bd1_s hf
        obtain ⟨x17, e_x17, hf⟩ := hf
        obtain ⟨k_e_x17, e_x17⟩ := cv_s e_x17
        refine ax_callV (As := [va_rf (some a14)]) (rest := []) (c_Go_isTrusted e_x17) ml_878 cm_Go_isTrusted rfl k_e_x17 (Nat.le_trans (Nat.le_of_ble_eq_true rfl) hR1) (Nat.le_trans (Nat.le_of_ble_eq_true rfl) hR2) rfl rfl (Nat.le_of_ble_eq_true rfl) dRo_isUndone_52 ?_
        replace hf := ite_c hf
        rcases hf with ⟨hc, hf⟩ | ⟨hc, hf⟩
        · refine ax_if_neF 60 dRo_isUndone_55 (by decide) hc ?_
          refine ax_iconst (0 : Int32) dRo_isUndone_58 k32_0 ?_
          cases hf
          exact Hr (Or.inl rfl) _ _ dRo_isUndone_59
        · refine ax_if_neT 60 dRo_isUndone_55 (by decide) hc ?_
          refine ax_aload_n (i := 0) (some y0) dRo_isUndone_60 rfl rfl ?_
          replace hf := bd1_s hf
          obtain ⟨r18, e_r18, hf⟩ := hf
          refine ax_getR fl_247 rfl dRo_isUndone_61 e_r18 ?_
          refine ax_aload (i := 5) (some a14) dRo_isUndone_64 rfl ?_
          refine ax_iload (i := 4) dRo_isUndone_66 rfl ?_
          refine ax_aload_n (i := 0) (some y0) dRo_isUndone_68 rfl rfl ?_
          replace hf := bd1_s hf
          obtain ⟨r19, e_r19, hf⟩ := hf
          refine ax_getR fl_240 rfl dRo_isUndone_69 e_r19 ?_
          replace hf := bd1_s hf
          obtain ⟨a20, e_d, hf⟩ := hf
          subst e_d
          replace hf := bd1_s hf
          obtain ⟨h21, e_h21, hf⟩ := hf
          obtain ⟨k_e_h21, e_h21⟩ := cv_s e_h21
          refine ax_callV (As := [va_rf (some a14), .int x12, va_rf r19]) (rest := []) (c_Go_go e_h21) ml_790 cm_Go_go rfl k_e_h21 (Nat.le_trans (Nat.le_of_ble_eq_true rfl) hR1) (Nat.le_trans (Nat.le_of_ble_eq_true rfl) hR2) rfl rfl (Nat.le_of_ble_eq_true rfl) dRo_isUndone_72 ?_
          refine ax_iinc (i := 3) (z3 + (-1 : Int32)) [some (va_rf (some y0)), some (.int y1), none, some (.int (z3 + (-1 : Int32))), some (.int x12), some (va_rf (some a14))] dRo_isUndone_75 rfl (iic k32_m1) (Or.inr (c1n rfl)) rfl ?_
          refine ax_goto 17 dRo_isUndone_78 (by decide) ?_
          refine ax_mask [true, true, true, true, false, false] rfl [some (va_rf (some y0)), some (.int y1), none, some (.int (z3 + (-1 : Int32))), none, none] rfl ?_
          exact ih (z3 + (-1 : Int32)) h21 hf
theorem v_Ro_isUndone {l : Launch} {E : EN} {R : Room} {B : (Nat × Nat) × (Nat × Nat)} {Qf : QF} {h0 : AH} {o : Nat} {p1 : Int32} {p2 : Int32} {r : Int32} {hF : AH} (hR1 : 4 ≤ R.frames) (hR2 : 256 ≤ R.locals) (Hr : (r = 0 ∨ r = 1) → ∀ (pc : Nat) (L : List (Option Value)), decode mi_Ro_isUndone.2.1 pc = .ok (.ireturn, 1) → AW l E mi_Ro_isUndone R B Qf pc L [.int r] hF) (hf : f_Ro_isUndone h0 o p1 p2 = some (r, hF)) : AW l E mi_Ro_isUndone R B Qf 0 [some (va_rf (some o)), some (.int p1), some (.int p2), none, none, none] [] h0 := by
  unfold f_Ro_isUndone at hf
  refine ax_aload_n (i := 0) (some o) dRo_isUndone_0 rfl rfl ?_
  replace hf := bd1_s hf
  obtain ⟨r1, e_r1, hf⟩ := hf
  refine ax_getR fl_247 rfl dRo_isUndone_1 e_r1 ?_
  refine ax_aload_n (i := 0) (some o) dRo_isUndone_4 rfl rfl ?_
  replace hf := bd1_s hf
  obtain ⟨r2, e_r2, hf⟩ := hf
  refine ax_getR fl_246 rfl dRo_isUndone_5 e_r2 ?_
  refine ax_iload_n (i := 2) dRo_isUndone_8 rfl rfl ?_
  replace hf := bd1_s hf
  obtain ⟨a3, e_d, hf⟩ := hf
  subst e_d
  replace hf := bd1_s hf
  obtain ⟨r4, e_r4, hf⟩ := hf
  refine ax_aald (c := 3) (by decide) rfl rfl dRo_isUndone_9 e_r4 ?_
  replace hf := bd1_s hf
  obtain ⟨a5, e_d, hf⟩ := hf
  subst e_d
  replace hf := bd1_s hf
  obtain ⟨h6, e_h6, hf⟩ := hf
  obtain ⟨k_e_h6, e_h6⟩ := cv_s e_h6
  refine ax_callV (As := [va_rf r4]) (rest := []) (c_Go_become e_h6) ml_786 cm_Go_become rfl k_e_h6 (Nat.le_trans (Nat.le_of_ble_eq_true rfl) hR1) (Nat.le_trans (Nat.le_of_ble_eq_true rfl) hR2) rfl rfl (Nat.le_of_ble_eq_true rfl) dRo_isUndone_10 ?_
  refine ax_iload_n (i := 2) dRo_isUndone_13 rfl rfl ?_
  refine ax_iconst (1 : Int32) dRo_isUndone_14 k32_1 ?_
  refine ax_isub dRo_isUndone_15 ?_
  replace hf := bd1_s hf
  obtain ⟨x7, e_x7, hf⟩ := hf
  refine ax_nmI (Option.some.inj e_x7) ?_
  refine ax_istore_n (i := 3) [some (va_rf (some o)), some (.int p1), some (.int p2), some (.int x7), none, none] dRo_isUndone_16 rfl (Nat.le_of_ble_eq_true rfl) (Or.inr (c1i rfl)) rfl ?_
  refine ax_mask [true, true, false, true, true, true] rfl [some (va_rf (some o)), some (.int p1), none, some (.int x7), none, none] rfl ?_
  refine w_Ro_isUndone_L17 hR1 hR2 Hr (fun h22 hf => ?_) FU x7 h6 hf
  refine ax_aload_n (i := 0) (some o) dRo_isUndone_81 rfl rfl ?_
  replace hf := bd1_s hf
  obtain ⟨r23, e_r23, hf⟩ := hf
  refine ax_getR fl_247 rfl dRo_isUndone_82 e_r23 ?_
  replace hf := bd1_s hf
  obtain ⟨a24, e_d, hf⟩ := hf
  subst e_d
  replace hf := bd1_s hf
  obtain ⟨x25, e_x25, hf⟩ := hf
  refine ax_getI fl_224 rfl dRo_isUndone_85 e_x25 ?_
  refine ax_iload_n (i := 1) dRo_isUndone_88 rfl rfl ?_
  replace hf := ite_c hf
  rcases hf with ⟨hc, hf⟩ | ⟨hc, hf⟩
  · refine ax_icmp_neF 96 dRo_isUndone_89 (by decide) hc ?_
    refine ax_iconst (1 : Int32) dRo_isUndone_92 k32_1 ?_
    refine ax_goto 97 dRo_isUndone_93 (by decide) ?_
    cases hf
    exact Hr (Or.inr rfl) _ _ dRo_isUndone_97
  · refine ax_icmp_neT 96 dRo_isUndone_89 (by decide) hc ?_
    refine ax_iconst (0 : Int32) dRo_isUndone_96 k32_0 ?_
    cases hf
    exact Hr (Or.inl rfl) _ _ dRo_isUndone_97
theorem c_Ro_isUndone {l : Launch} {E : EN} {h0 : AH} {o : Nat} {p1 : Int32} {p2 : Int32} {r : Int32} {hF : AH} (hf : f_Ro_isUndone h0 o p1 p2 = some (r, hF)) : AM l E 4 mi_Ro_isUndone [va_rf (some o), .int p1, .int p2] h0 (some (.int r)) hF :=
  am_of2 [(va_rf (some o), false), (.int p1, false), (.int p2, false)] 3 ⟨cat_rf _, rfl, rfl, trivial⟩ rfl rfl (v_Ro_isUndone (Nat.le_refl _) (Nat.le_refl _) (fun hz pc L hd => ax_zret rfl hz hd rfl) hf)
theorem w_Ro_undoings_L4 {l : Launch} {E : EN} {R : Room} {B : (Nat × Nat) × (Nat × Nat)} {Qf : QF} {r : Int32} {hF : AH} (hR1 : 5 ≤ R.frames) (hR2 : 320 ≤ R.locals) (Hr : ∀ (pc : Nat) (L : List (Option Value)), decode mi_Ro_undoings.2.1 pc = .ok (.ireturn, 1) → AW l E mi_Ro_undoings R B Qf pc L [.int r] hF) {y0 : Nat} {y1 : Int32} : ∀ (n : Nat) (z2 : Int32) (z3 : Int32) (h : AH), f_Ro_undoings_L4 y0 y1 n z2 z3 h = some (r, hF) → AW l E mi_Ro_undoings R B Qf 4 [some (va_rf (some y0)), some (.int y1), some (.int z2), some (.int z3)] [] h := by
  intro n
  induction n with
  | zero => intro z2 z3 h hf; cases hf
  | succ n ih =>
    intro z2 z3 h hf
    rw [f_Ro_undoings_L4] at hf
    refine ax_iload_n (i := 3) dRo_undoings_4 rfl rfl ?_
    refine ax_aload_n (i := 0) (some y0) dRo_undoings_5 rfl rfl ?_
    replace hf := bd1_s hf
    obtain ⟨x1, e_x1, hf⟩ := hf
    refine ax_getI fl_244 rfl dRo_undoings_6 e_x1 ?_
    replace hf := ite_c hf
    rcases hf with ⟨hc, hf⟩ | ⟨hc, hf⟩
    · refine ax_icmp_gtT 37 dRo_undoings_9 (by decide) hc ?_
      refine ax_iload_n (i := 2) dRo_undoings_37 rfl rfl ?_
      cases hf
      exact Hr _ _ dRo_undoings_38
    · refine ax_icmp_gtF 37 dRo_undoings_9 (by decide) hc ?_
      refine ax_iload_n (i := 2) dRo_undoings_12 rfl rfl ?_
      refine ax_aload_n (i := 0) (some y0) dRo_undoings_13 rfl rfl ?_
      refine ax_iload_n (i := 1) dRo_undoings_14 rfl rfl ?_
      refine ax_iload_n (i := 3) dRo_undoings_15 rfl rfl ?_
      replace hf := bd2_s hf
      obtain ⟨x2, h3, e_x2, hf⟩ := hf
      obtain ⟨k_e_x2, e_x2⟩ := cv_s e_x2
      refine ax_callV (As := [.int y1, .int z3]) (rest := [.int z2]) (c_Ro_isUndone e_x2) ml_873 cm_Ro_isUndone rfl k_e_x2 (Nat.le_trans (Nat.le_of_ble_eq_true rfl) hR1) (Nat.le_trans (Nat.le_of_ble_eq_true rfl) hR2) rfl rfl (Nat.le_of_ble_eq_true rfl) dRo_undoings_16 ?_
      replace hf := bd1_s hf
      obtain ⟨x4, hT, hf⟩ := hf
      have K : AW l E mi_Ro_undoings R B Qf 29 [some (va_rf (some y0)), some (.int y1), none, some (.int z3)] [.int x4, .int z2] h3 := by
        clear hT
        refine ax_ior dRo_undoings_29 ?_
        replace hf := bd1_s hf
        obtain ⟨x5, e_x5, hf⟩ := hf
        refine ax_nmI (Option.some.inj e_x5) ?_
        refine ax_istore_n (i := 2) [some (va_rf (some y0)), some (.int y1), some (.int x5), some (.int z3)] dRo_undoings_30 rfl (Nat.le_of_ble_eq_true rfl) (Or.inr (c1i rfl)) rfl ?_
        refine ax_iinc (i := 3) (z3 + (1 : Int32)) [some (va_rf (some y0)), some (.int y1), some (.int x5), some (.int (z3 + (1 : Int32)))] dRo_undoings_31 rfl (iic k32_1) (Or.inr (c1i rfl)) rfl ?_
        refine ax_goto 4 dRo_undoings_34 (by decide) ?_
        exact ih x5 (z3 + (1 : Int32)) h3 hf
      replace hf := hT
      clear hT
      replace hf := ite_c hf
      rcases hf with ⟨hc, hf⟩ | ⟨hc, hf⟩
      · refine ax_if_eqT 28 dRo_undoings_19 (by decide) hc ?_
        refine ax_iconst (0 : Int32) dRo_undoings_28 k32_0 ?_
        refine ax_mask [true, true, false, true] rfl [some (va_rf (some y0)), some (.int y1), none, some (.int z3)] rfl ?_
        cases hf
        exact K
      · refine ax_if_eqF 28 dRo_undoings_19 (by decide) hc ?_
        refine ax_iconst (1 : Int32) dRo_undoings_22 k32_1 ?_
        refine ax_iload_n (i := 3) dRo_undoings_23 rfl rfl ?_
        refine ax_ishl dRo_undoings_24 ?_
        refine ax_goto 29 dRo_undoings_25 (by decide) ?_
        refine ax_mask [true, true, false, true] rfl [some (va_rf (some y0)), some (.int y1), none, some (.int z3)] rfl ?_
        cases hf
        exact K
theorem v_Ro_undoings {l : Launch} {E : EN} {R : Room} {B : (Nat × Nat) × (Nat × Nat)} {Qf : QF} {h0 : AH} {o : Nat} {p1 : Int32} {r : Int32} {hF : AH} (hR1 : 5 ≤ R.frames) (hR2 : 320 ≤ R.locals) (Hr : ∀ (pc : Nat) (L : List (Option Value)), decode mi_Ro_undoings.2.1 pc = .ok (.ireturn, 1) → AW l E mi_Ro_undoings R B Qf pc L [.int r] hF) (hf : f_Ro_undoings h0 o p1 = some (r, hF)) : AW l E mi_Ro_undoings R B Qf 0 [some (va_rf (some o)), some (.int p1), none, none] [] h0 := by
  unfold f_Ro_undoings at hf
  refine ax_iconst (0 : Int32) dRo_undoings_0 k32_0 ?_
  refine ax_istore_n (i := 2) [some (va_rf (some o)), some (.int p1), some (.int (0 : Int32)), none] dRo_undoings_1 rfl (Nat.le_of_ble_eq_true rfl) (Or.inr (c1i rfl)) rfl ?_
  refine ax_iconst (0 : Int32) dRo_undoings_2 k32_0 ?_
  refine ax_istore_n (i := 3) [some (va_rf (some o)), some (.int p1), some (.int (0 : Int32)), some (.int (0 : Int32))] dRo_undoings_3 rfl (Nat.le_of_ble_eq_true rfl) (Or.inr (c1i rfl)) rfl ?_
  refine w_Ro_undoings_L4 hR1 hR2 Hr FU (0 : Int32) (0 : Int32) h0 hf
theorem c_Ro_undoings {l : Launch} {E : EN} {h0 : AH} {o : Nat} {p1 : Int32} {r : Int32} {hF : AH} (hf : f_Ro_undoings h0 o p1 = some (r, hF)) : AM l E 5 mi_Ro_undoings [va_rf (some o), .int p1] h0 (some (.int r)) hF :=
  am_of2 [(va_rf (some o), false), (.int p1, false)] 2 ⟨cat_rf _, rfl, trivial⟩ rfl rfl (v_Ro_undoings (Nat.le_refl _) (Nat.le_refl _) (fun pc L hd => ax_iret rfl hd rfl) hf)
theorem v_C_undone {l : Launch} {E : EN} {R : Room} {B : (Nat × Nat) × (Nat × Nat)} {Qf : QF} {h0 : AH} {o : Nat} {p1 : Int32} {r : Int32} {hF : AH} (hR1 : 7 ≤ R.frames) (hR2 : 448 ≤ R.locals) (Hr : ∀ (pc : Nat) (L : List (Option Value)), decode mi_C_undone.2.1 pc = .ok (.ireturn, 1) → AW l E mi_C_undone R B Qf pc L [.int r] hF) (hf : f_C_undone h0 o p1 = some (r, hF)) : AW l E mi_C_undone R B Qf 0 [some (va_rf (some o)), some (.int p1), none] [] h0 := by
  unfold f_C_undone at hf
  refine ax_aload_n (i := 0) (some o) dC_undone_0 rfl rfl ?_
  refine ax_iload_n (i := 1) dC_undone_1 rfl rfl ?_
  replace hf := bd2_s hf
  obtain ⟨x1, h2, e_x1, hf⟩ := hf
  obtain ⟨k_e_x1, e_x1⟩ := cv_s e_x1
  refine ax_callV (As := [.int p1]) (rest := []) (c_C_goingRefusal e_x1) ml_798 cm_C_goingRefusal rfl k_e_x1 (Nat.le_trans (Nat.le_of_ble_eq_true rfl) hR1) (Nat.le_trans (Nat.le_of_ble_eq_true rfl) hR2) rfl rfl (Nat.le_of_ble_eq_true rfl) dC_undone_2 ?_
  refine ax_istore_n (i := 2) [some (va_rf (some o)), some (.int p1), some (.int x1)] dC_undone_5 rfl (Nat.le_of_ble_eq_true rfl) (Or.inr (c1i rfl)) rfl ?_
  refine ax_iload_n (i := 2) dC_undone_6 rfl rfl ?_
  replace hf := ite_c hf
  rcases hf with ⟨hc, hf⟩ | ⟨hc, hf⟩
  · refine ax_if_eqT 14 dC_undone_7 (by decide) hc ?_
    refine ax_aload_n (i := 0) (some o) dC_undone_14 rfl rfl ?_
    replace hf := bd1_s hf
    obtain ⟨r3, e_r3, hf⟩ := hf
    refine ax_getR fl_329 rfl dC_undone_15 e_r3 ?_
    refine ax_iload_n (i := 1) dC_undone_18 rfl rfl ?_
    replace hf := bd1_s hf
    obtain ⟨a4, e_d, hf⟩ := hf
    subst e_d
    replace hf := bd2_s hf
    obtain ⟨x5, h6, e_x5, hf⟩ := hf
    obtain ⟨k_e_x5, e_x5⟩ := cv_s e_x5
    refine ax_callV (As := [.int p1]) (rest := []) (c_Ro_undoings e_x5) ml_869 cm_Ro_undoings rfl k_e_x5 (Nat.le_trans (Nat.le_of_ble_eq_true rfl) hR1) (Nat.le_trans (Nat.le_of_ble_eq_true rfl) hR2) rfl rfl (Nat.le_of_ble_eq_true rfl) dC_undone_19 ?_
    cases hf
    exact Hr _ _ dC_undone_22
  · refine ax_if_eqF 14 dC_undone_7 (by decide) hc ?_
    refine ax_iload_n (i := 2) dC_undone_10 rfl rfl ?_
    refine ax_goto 22 dC_undone_11 (by decide) ?_
    cases hf
    exact Hr _ _ dC_undone_22
theorem c_C_undone {l : Launch} {E : EN} {h0 : AH} {o : Nat} {p1 : Int32} {r : Int32} {hF : AH} (hf : f_C_undone h0 o p1 = some (r, hF)) : AM l E 7 mi_C_undone [va_rf (some o), .int p1] h0 (some (.int r)) hF :=
  am_of2 [(va_rf (some o), false), (.int p1, false)] 1 ⟨cat_rf _, rfl, trivial⟩ rfl rfl (v_C_undone (Nat.le_refl _) (Nat.le_refl _) (fun pc L hd => ax_iret rfl hd rfl) hf)
theorem v_C_begin {l : Launch} {E : EN} {R : Room} {B : (Nat × Nat) × (Nat × Nat)} {Qf : QF} {h0 : AH} {o : Nat} {p1 : Int32} {r : Int32} {hF : AH} (hR1 : 4 ≤ R.frames) (hR2 : 256 ≤ R.locals) (Hr : ∀ (pc : Nat) (L : List (Option Value)), decode mi_C_begin.2.1 pc = .ok (.ireturn, 1) → AW l E mi_C_begin R B Qf pc L [.int r] hF) (hf : f_C_begin h0 o p1 = some (r, hF)) : AW l E mi_C_begin R B Qf 0 [some (va_rf (some o)), some (.int p1)] [] h0 := by
  unfold f_C_begin at hf
  refine ax_iload_n (i := 1) dC_begin_0 rfl rfl ?_
  replace hf := bd1_s hf
  obtain ⟨x1, e_x1, hf⟩ := hf
  refine ax_callS (As := [.int p1]) (rest := []) (c_C_isFacts e_x1) ml_691 cm_C_isFacts (Nat.le_trans (Nat.le_of_ble_eq_true rfl) hR1) (Nat.le_trans (Nat.le_of_ble_eq_true rfl) hR2) rfl rfl (Nat.le_of_ble_eq_true rfl) dC_begin_1 ?_
  replace hf := ite_c hf
  rcases hf with ⟨hc, hf⟩ | ⟨hc, hf⟩
  · refine ax_if_neF 10 dC_begin_4 (by decide) hc ?_
    refine ax_bipush (-102 : Int32) dC_begin_7 k8_m102 ?_
    cases hf
    exact Hr _ _ dC_begin_9
  · refine ax_if_neT 10 dC_begin_4 (by decide) hc ?_
    refine ax_aload_n (i := 0) (some o) dC_begin_10 rfl rfl ?_
    replace hf := bd1_s hf
    obtain ⟨r2, e_r2, hf⟩ := hf
    refine ax_getR fl_331 rfl dC_begin_11 e_r2 ?_
    refine ax_iload_n (i := 1) dC_begin_14 rfl rfl ?_
    replace hf := bd1_s hf
    obtain ⟨a3, e_d, hf⟩ := hf
    subst e_d
    replace hf := bd1_s hf
    obtain ⟨h4, e_h4, hf⟩ := hf
    obtain ⟨k_e_h4, e_h4⟩ := cv_s e_h4
    refine ax_callV (As := [.int p1]) (rest := []) (c_Lo_startWith e_h4) ml_310 cm_Lo_startWith rfl k_e_h4 (Nat.le_trans (Nat.le_of_ble_eq_true rfl) hR1) (Nat.le_trans (Nat.le_of_ble_eq_true rfl) hR2) rfl rfl (Nat.le_of_ble_eq_true rfl) dC_begin_15 ?_
    refine ax_iconst (1 : Int32) dC_begin_18 k32_1 ?_
    cases hf
    exact Hr _ _ dC_begin_19
theorem c_C_begin {l : Launch} {E : EN} {h0 : AH} {o : Nat} {p1 : Int32} {r : Int32} {hF : AH} (hf : f_C_begin h0 o p1 = some (r, hF)) : AM l E 4 mi_C_begin [va_rf (some o), .int p1] h0 (some (.int r)) hF :=
  am_of2 [(va_rf (some o), false), (.int p1, false)] 0 ⟨cat_rf _, rfl, trivial⟩ rfl rfl (v_C_begin (Nat.le_refl _) (Nat.le_refl _) (fun pc L hd => ax_iret rfl hd rfl) hf)
theorem v_Wo_become {l : Launch} {E : EN} {R : Room} {B : (Nat × Nat) × (Nat × Nat)} {Qf : QF} {h0 : AH} {o : Nat} {p1 : Option Nat} {hF : AH} (hR1 : 1 ≤ R.frames) (hR2 : 64 ≤ R.locals) (Hr : ∀ (pc : Nat) (L : List (Option Value)), decode mi_Wo_become.2.1 pc = .ok (.return_, 1) → AW l E mi_Wo_become R B Qf pc L [] hF) (hf : f_Wo_become h0 o p1 = some hF) : AW l E mi_Wo_become R B Qf 0 [some (va_rf (some o)), some (va_rf p1)] [] h0 := by
  unfold f_Wo_become at hf
  refine ax_aload_n (i := 1) p1 dWo_become_0 rfl rfl ?_
  replace hf := bd1_s hf
  obtain ⟨a1, e_d, hf⟩ := hf
  subst e_d
  replace hf := bd1_s hf
  obtain ⟨r2, e_r2, hf⟩ := hf
  refine ax_getR fl_294 rfl dWo_become_1 e_r2 ?_
  refine ax_iconst (0 : Int32) dWo_become_4 k32_0 ?_
  refine ax_aload_n (i := 0) (some o) dWo_become_5 rfl rfl ?_
  replace hf := bd1_s hf
  obtain ⟨r3, e_r3, hf⟩ := hf
  refine ax_getR fl_294 rfl dWo_become_6 e_r3 ?_
  refine ax_iconst (0 : Int32) dWo_become_9 k32_0 ?_
  refine ax_bipush (64 : Int32) dWo_become_10 k8_64 ?_
  replace hf := bd1_s hf
  obtain ⟨a4, e_d, hf⟩ := hf
  subst e_d
  replace hf := bd1_s hf
  obtain ⟨a5, e_d, hf⟩ := hf
  subst e_d
  replace hf := bd1_s hf
  obtain ⟨h6, e_h6, hf⟩ := hf
  refine ax_cpJ w_899 w_acn w_acs w_sys (Nat.le_trans (Nat.le_of_ble_eq_true rfl) hR1) (Nat.le_trans (Nat.le_of_ble_eq_true rfl) hR2) (Nat.le_of_ble_eq_true rfl) dWo_become_12 e_h6 ?_
  cases hf
  exact Hr _ _ dWo_become_15
theorem c_Wo_become {l : Launch} {E : EN} {h0 : AH} {o : Nat} {p1 : Option Nat} {hF : AH} (hf : f_Wo_become h0 o p1 = some hF) : AM l E 1 mi_Wo_become [va_rf (some o), va_rf p1] h0 none hF :=
  am_of2 [(va_rf (some o), false), (va_rf p1, false)] 0 ⟨cat_rf _, cat_rf _, trivial⟩ rfl rfl (v_Wo_become (Nat.le_refl _) (Nat.le_refl _) (fun pc L hd => ax_vret rfl hd rfl) hf)
theorem v_Lo_addEvent {l : Launch} {E : EN} {R : Room} {B : (Nat × Nat) × (Nat × Nat)} {Qf : QF} {h0 : AH} {o : Nat} {r : Option Nat} {hF : AH} (hR1 : 2 ≤ R.frames) (hR2 : 128 ≤ R.locals) (Hr : ∀ (pc : Nat) (L : List (Option Value)), decode mi_Lo_addEvent.2.1 pc = .ok (.areturn, 1) → AW l E mi_Lo_addEvent R B Qf pc L [va_rf r] hF) (hf : f_Lo_addEvent h0 o = some (r, hF)) : AW l E mi_Lo_addEvent R B Qf 0 [some (va_rf (some o))] [] h0 := by
  unfold f_Lo_addEvent at hf
  refine ax_aload_n (i := 0) (some o) dLo_addEvent_0 rfl rfl ?_
  replace hf := bd1_s hf
  obtain ⟨x1, e_x1, hf⟩ := hf
  refine ax_getI fl_300 rfl dLo_addEvent_1 e_x1 ?_
  refine ax_bipush (30 : Int32) dLo_addEvent_4 k8_30 ?_
  replace hf := bd1_s hf
  obtain ⟨h14, hT, hf⟩ := hf
  have K : AW l E mi_Lo_addEvent R B Qf 42 [some (va_rf (some o))] [] h14 := by
    clear hT
    refine ax_aload_n (i := 0) (some o) dLo_addEvent_42 rfl rfl ?_
    replace hf := bd1_s hf
    obtain ⟨r15, e_r15, hf⟩ := hf
    refine ax_getR fl_298 rfl dLo_addEvent_43 e_r15 ?_
    refine ax_aload_n (i := 0) (some o) dLo_addEvent_46 rfl rfl ?_
    replace hf := bd1_s hf
    obtain ⟨x16, e_x16, hf⟩ := hf
    refine ax_getI fl_300 rfl dLo_addEvent_47 e_x16 ?_
    replace hf := bd1_s hf
    obtain ⟨a17, e_d, hf⟩ := hf
    subst e_d
    replace hf := bd1_s hf
    obtain ⟨r18, e_r18, hf⟩ := hf
    refine ax_aald (c := 11) (by decide) rfl rfl dLo_addEvent_50 e_r18 ?_
    cases hf
    exact Hr _ _ dLo_addEvent_51
  replace hf := hT
  clear hT
  replace hf := ite_c hf
  rcases hf with ⟨hc, hf⟩ | ⟨hc, hf⟩
  · refine ax_icmp_geF 42 dLo_addEvent_6 (by decide) hc ?_
    refine ax_aload_n (i := 0) (some o) dLo_addEvent_9 rfl rfl ?_
    replace hf := bd1_s hf
    obtain ⟨r2, e_r2, hf⟩ := hf
    refine ax_getR fl_298 rfl dLo_addEvent_10 e_r2 ?_
    refine ax_aload_n (i := 0) (some o) dLo_addEvent_13 rfl rfl ?_
    replace hf := bd1_s hf
    obtain ⟨x3, e_x3, hf⟩ := hf
    refine ax_getI fl_300 rfl dLo_addEvent_14 e_x3 ?_
    refine ax_iconst (1 : Int32) dLo_addEvent_17 k32_1 ?_
    refine ax_iadd dLo_addEvent_18 ?_
    replace hf := bd1_s hf
    obtain ⟨a4, e_d, hf⟩ := hf
    subst e_d
    replace hf := bd1_s hf
    obtain ⟨r5, e_r5, hf⟩ := hf
    refine ax_aald (c := 11) (by decide) rfl rfl dLo_addEvent_19 e_r5 ?_
    refine ax_aload_n (i := 0) (some o) dLo_addEvent_20 rfl rfl ?_
    replace hf := bd1_s hf
    obtain ⟨r6, e_r6, hf⟩ := hf
    refine ax_getR fl_298 rfl dLo_addEvent_21 e_r6 ?_
    refine ax_aload_n (i := 0) (some o) dLo_addEvent_24 rfl rfl ?_
    replace hf := bd1_s hf
    obtain ⟨x7, e_x7, hf⟩ := hf
    refine ax_getI fl_300 rfl dLo_addEvent_25 e_x7 ?_
    replace hf := bd1_s hf
    obtain ⟨a8, e_d, hf⟩ := hf
    subst e_d
    replace hf := bd1_s hf
    obtain ⟨r9, e_r9, hf⟩ := hf
    refine ax_aald (c := 11) (by decide) rfl rfl dLo_addEvent_28 e_r9 ?_
    replace hf := bd1_s hf
    obtain ⟨a10, e_d, hf⟩ := hf
    subst e_d
    replace hf := bd1_s hf
    obtain ⟨h11, e_h11, hf⟩ := hf
    obtain ⟨k_e_h11, e_h11⟩ := cv_s e_h11
    refine ax_callV (As := [va_rf r9]) (rest := []) (c_Wo_become e_h11) ml_895 cm_Wo_become rfl k_e_h11 (Nat.le_trans (Nat.le_of_ble_eq_true rfl) hR1) (Nat.le_trans (Nat.le_of_ble_eq_true rfl) hR2) rfl rfl (Nat.le_of_ble_eq_true rfl) dLo_addEvent_29 ?_
    refine ax_aload_n (i := 0) (some o) dLo_addEvent_32 rfl rfl ?_
    refine ax_dup dLo_addEvent_33 rfl ?_
    replace hf := bd1_s hf
    obtain ⟨x12, e_x12, hf⟩ := hf
    refine ax_getI fl_300 rfl dLo_addEvent_34 e_x12 ?_
    refine ax_iconst (1 : Int32) dLo_addEvent_37 k32_1 ?_
    refine ax_iadd dLo_addEvent_38 ?_
    replace hf := bd1_s hf
    obtain ⟨h13, e_h13, hf⟩ := hf
    refine ax_putI fw_300 rfl rfl dLo_addEvent_39 e_h13 ?_
    cases hf
    exact K
  · refine ax_icmp_geT 42 dLo_addEvent_6 (by decide) hc ?_
    cases hf
    exact K
theorem c_Lo_addEvent {l : Launch} {E : EN} {h0 : AH} {o : Nat} {r : Option Nat} {hF : AH} (hf : f_Lo_addEvent h0 o = some (r, hF)) : AM l E 2 mi_Lo_addEvent [va_rf (some o)] h0 (some (va_rf r)) hF :=
  am_of2 [(va_rf (some o), false)] 0 ⟨cat_rf _, trivial⟩ rfl rfl (v_Lo_addEvent (Nat.le_refl _) (Nat.le_refl _) (fun pc L hd => ax_aret rfl hd rfl) hf)
theorem v_Wo_holders {l : Launch} {E : EN} {R : Room} {B : (Nat × Nat) × (Nat × Nat)} {Qf : QF} {h0 : AH} {p1 : Int32} {p2 : Int32} {r : Int64} (hR1 : 2 ≤ R.frames) (hR2 : 128 ≤ R.locals) (Hr : ∀ (pc : Nat) (L : List (Option Value)), decode mi_Wo_holders.2.1 pc = .ok (.lreturn, 1) → AW l E mi_Wo_holders R B Qf pc L [.long r] h0) (hf : f_Wo_holders h0 p1 p2 = some r) : AW l E mi_Wo_holders R B Qf 0 [some (.int p1), some (.int p2)] [] h0 := by
  unfold f_Wo_holders at hf
  refine ax_iload_n (i := 1) dWo_holders_0 rfl rfl ?_
  refine ax_bipush (6 : Int32) dWo_holders_1 k8_6 ?_
  replace hf := ite_c hf
  rcases hf with ⟨hc, hf⟩ | ⟨hc, hf⟩
  · refine ax_icmp_geF 12 dWo_holders_3 (by decide) hc ?_
    refine ax_gets (j := 2) rfl (Or.inr ⟨_, w_912⟩) dWo_holders_6 ?_
    refine ax_iload_n (i := 1) dWo_holders_9 rfl rfl ?_
    replace hf := bd1_s hf
    obtain ⟨x2, e_x2, hf⟩ := hf
    refine ax_lald dWo_holders_10 e_x2 ?_
    cases hf
    exact Hr _ _ dWo_holders_11
  · refine ax_icmp_geT 12 dWo_holders_3 (by decide) hc ?_
    refine ax_iload_n (i := 0) dWo_holders_12 rfl rfl ?_
    refine ax_iload_n (i := 1) dWo_holders_13 rfl rfl ?_
    refine ax_bipush (6 : Int32) dWo_holders_14 k8_6 ?_
    refine ax_isub dWo_holders_16 ?_
    replace hf := bd1_s hf
    obtain ⟨x1, e_x1, hf⟩ := hf
    refine ax_callS (As := [.int p1, .int (p2 - (6 : Int32))]) (rest := []) (c_C_hasBit e_x1) ml_904 cm_C_hasBit (Nat.le_trans (Nat.le_of_ble_eq_true rfl) hR1) (Nat.le_trans (Nat.le_of_ble_eq_true rfl) hR2) rfl rfl (Nat.le_of_ble_eq_true rfl) dWo_holders_17 ?_
    replace hf := ite_c hf
    rcases hf with ⟨hc, hf⟩ | ⟨hc, hf⟩
    · refine ax_if_eqT 29 dWo_holders_20 (by decide) hc ?_
      refine ax_lconst (0 : Int64) dWo_holders_29 kl_0 ?_
      cases hf
      exact Hr _ _ dWo_holders_30
    · refine ax_if_eqF 29 dWo_holders_20 (by decide) hc ?_
      refine ax_ldc2 w_914 dWo_holders_23 ?_
      refine ax_goto 30 dWo_holders_26 (by decide) ?_
      cases hf
      exact Hr _ _ dWo_holders_30
theorem c_Wo_holders {l : Launch} {E : EN} {h0 : AH} {p1 : Int32} {p2 : Int32} {r : Int64} (hf : f_Wo_holders h0 p1 p2 = some r) : AM l E 2 mi_Wo_holders [.int p1, .int p2] h0 (some (.long r)) h0 :=
  am_of2 [(.int p1, false), (.int p2, false)] 0 ⟨rfl, rfl, trivial⟩ rfl rfl (v_Wo_holders (Nat.le_refl _) (Nat.le_refl _) (fun pc L hd => ax_lret rfl hd rfl) hf)
theorem w_Wo_keep_L2 {l : Launch} {E : EN} {R : Room} {B : (Nat × Nat) × (Nat × Nat)} {Qf : QF} {hF : AH} (hR1 : 3 ≤ R.frames) (hR2 : 192 ≤ R.locals) (Hr : ∀ (pc : Nat) (L : List (Option Value)), decode mi_Wo_keep.2.1 pc = .ok (.return_, 1) → AW l E mi_Wo_keep R B Qf pc L [] hF) {y0 : Nat} {y1 : Int32} {y2 : Int32} : ∀ (n : Nat) (z3 : Int32) (h : AH), f_Wo_keep_L2 y0 y1 y2 n z3 h = some hF → AW l E mi_Wo_keep R B Qf 2 [some (va_rf (some y0)), some (.int y1), some (.int y2), some (.int z3)] [] h := by
  intro n
  induction n with
  | zero => intro z3 h hf; cases hf
  | succ n ih =>
    intro z3 h hf
    rw [f_Wo_keep_L2] at hf
    refine ax_iload_n (i := 3) dWo_keep_2 rfl rfl ?_
    refine ax_bipush (64 : Int32) dWo_keep_3 k8_64 ?_
    replace hf := ite_c hf
    rcases hf with ⟨hc, hf⟩ | ⟨hc, hf⟩
    · refine ax_icmp_geF 44 dWo_keep_5 (by decide) hc ?_
      refine ax_aload_n (i := 0) (some y0) dWo_keep_8 rfl rfl ?_
      replace hf := bd1_s hf
      obtain ⟨r1, e_r1, hf⟩ := hf
      refine ax_getR fl_294 rfl dWo_keep_9 e_r1 ?_
      refine ax_iload_n (i := 3) dWo_keep_12 rfl rfl ?_
      refine ax_dup2 dWo_keep_13 rfl (cat_rf _) ?_
      replace hf := bd1_s hf
      obtain ⟨a2, e_d, hf⟩ := hf
      subst e_d
      replace hf := bd1_s hf
      obtain ⟨x3, e_x3, hf⟩ := hf
      refine ax_lald dWo_keep_14 e_x3 ?_
      refine ax_iload_n (i := 2) dWo_keep_15 rfl rfl ?_
      replace hf := bd1_s hf
      obtain ⟨x6, hT, hf⟩ := hf
      have K : AW l E mi_Wo_keep R B Qf 36 [some (va_rf (some y0)), some (.int y1), some (.int y2), some (.int z3)] [.long x6, .long x3, .int z3, va_rf (some a2)] h := by
        clear hT
        refine ax_land dWo_keep_36 ?_
        replace hf := bd1_s hf
        obtain ⟨h7, e_h7, hf⟩ := hf
        refine ax_last dWo_keep_37 e_h7 ?_
        refine ax_iinc (i := 3) (z3 + (1 : Int32)) [some (va_rf (some y0)), some (.int y1), some (.int y2), some (.int (z3 + (1 : Int32)))] dWo_keep_38 rfl (iic k32_1) (Or.inr (c1i rfl)) rfl ?_
        refine ax_goto 2 dWo_keep_41 (by decide) ?_
        exact ih (z3 + (1 : Int32)) h7 hf
      replace hf := hT
      clear hT
      replace hf := ite_c hf
      rcases hf with ⟨hc, hf⟩ | ⟨hc, hf⟩
      · refine ax_if_eqT 27 dWo_keep_16 (by decide) hc ?_
        refine ax_iload_n (i := 3) dWo_keep_27 rfl rfl ?_
        refine ax_iload_n (i := 1) dWo_keep_28 rfl rfl ?_
        replace hf := bd1_s hf
        obtain ⟨x4, e_x4, hf⟩ := hf
        refine ax_callS (As := [.int z3, .int y1]) (rest := [.long x3, .int z3, va_rf (some a2)]) (c_Wo_holders e_x4) ml_909 cm_Wo_holders (Nat.le_trans (Nat.le_of_ble_eq_true rfl) hR1) (Nat.le_trans (Nat.le_of_ble_eq_true rfl) hR2) rfl rfl (Nat.le_of_ble_eq_true rfl) dWo_keep_29 ?_
        refine ax_ldc2 w_914 dWo_keep_32 ?_
        refine ax_lxor dWo_keep_35 ?_
        cases hf
        exact K
      · refine ax_if_eqF 27 dWo_keep_16 (by decide) hc ?_
        refine ax_iload_n (i := 3) dWo_keep_19 rfl rfl ?_
        refine ax_iload_n (i := 1) dWo_keep_20 rfl rfl ?_
        replace hf := bd1_s hf
        obtain ⟨x5, e_x5, hf⟩ := hf
        refine ax_callS (As := [.int z3, .int y1]) (rest := [.long x3, .int z3, va_rf (some a2)]) (c_Wo_holders e_x5) ml_909 cm_Wo_holders (Nat.le_trans (Nat.le_of_ble_eq_true rfl) hR1) (Nat.le_trans (Nat.le_of_ble_eq_true rfl) hR2) rfl rfl (Nat.le_of_ble_eq_true rfl) dWo_keep_21 ?_
        refine ax_goto 36 dWo_keep_24 (by decide) ?_
        cases hf
        exact K
    · refine ax_icmp_geT 44 dWo_keep_5 (by decide) hc ?_
      cases hf
      exact Hr _ _ dWo_keep_44
theorem v_Wo_keep {l : Launch} {E : EN} {R : Room} {B : (Nat × Nat) × (Nat × Nat)} {Qf : QF} {h0 : AH} {o : Nat} {p1 : Int32} {p2 : Int32} {hF : AH} (hR1 : 3 ≤ R.frames) (hR2 : 192 ≤ R.locals) (Hr : ∀ (pc : Nat) (L : List (Option Value)), decode mi_Wo_keep.2.1 pc = .ok (.return_, 1) → AW l E mi_Wo_keep R B Qf pc L [] hF) (hf : f_Wo_keep h0 o p1 p2 = some hF) : AW l E mi_Wo_keep R B Qf 0 [some (va_rf (some o)), some (.int p1), some (.int p2), none] [] h0 := by
  unfold f_Wo_keep at hf
  refine ax_iconst (0 : Int32) dWo_keep_0 k32_0 ?_
  refine ax_istore_n (i := 3) [some (va_rf (some o)), some (.int p1), some (.int p2), some (.int (0 : Int32))] dWo_keep_1 rfl (Nat.le_of_ble_eq_true rfl) (Or.inr (c1i rfl)) rfl ?_
  refine w_Wo_keep_L2 hR1 hR2 Hr FU (0 : Int32) h0 hf
theorem c_Wo_keep {l : Launch} {E : EN} {h0 : AH} {o : Nat} {p1 : Int32} {p2 : Int32} {hF : AH} (hf : f_Wo_keep h0 o p1 p2 = some hF) : AM l E 3 mi_Wo_keep [va_rf (some o), .int p1, .int p2] h0 none hF :=
  am_of2 [(va_rf (some o), false), (.int p1, false), (.int p2, false)] 1 ⟨cat_rf _, rfl, rfl, trivial⟩ rfl rfl (v_Wo_keep (Nat.le_refl _) (Nat.le_refl _) (fun pc L hd => ax_vret rfl hd rfl) hf)
theorem v_Wo_movedWithin {l : Launch} {E : EN} {R : Room} {B : (Nat × Nat) × (Nat × Nat)} {Qf : QF} {h0 : AH} {p1 : Int64} {p2 : Int32} {p3 : Int32} {r : Int64} (hR1 : 1 ≤ R.frames) (hR2 : 64 ≤ R.locals) (Hr : ∀ (pc : Nat) (L : List (Option Value)), decode mi_Wo_movedWithin.2.1 pc = .ok (.lreturn, 1) → AW l E mi_Wo_movedWithin R B Qf pc L [.long r] h0) (hf : f_Wo_movedWithin h0 p1 p2 p3 = some r) : AW l E mi_Wo_movedWithin R B Qf 0 [some (.long p1), none, some (.int p2), some (.int p3), none, none, none, none] [] h0 := by
  unfold f_Wo_movedWithin at hf
  refine ax_lload_n (i := 0) dWo_movedWithin_0 rfl rfl ?_
  refine ax_gets (j := 2) rfl (Or.inr ⟨_, w_912⟩) dWo_movedWithin_1 ?_
  refine ax_iload_n (i := 2) dWo_movedWithin_4 rfl rfl ?_
  replace hf := bd1_s hf
  obtain ⟨x1, e_x1, hf⟩ := hf
  refine ax_lald dWo_movedWithin_5 e_x1 ?_
  refine ax_land dWo_movedWithin_6 ?_
  replace hf := bd1_s hf
  obtain ⟨x2, e_x2, hf⟩ := hf
  refine ax_nmJ (Option.some.inj e_x2) ?_
  refine ax_lstore (i := 4) [some (.long p1), none, some (.int p2), some (.int p3), some (.long x2), none, none, none] dWo_movedWithin_7 (Nat.le_of_ble_eq_true rfl) (Or.inr (c1i rfl)) rfl ?_
  refine ax_lload_n (i := 0) dWo_movedWithin_9 rfl rfl ?_
  refine ax_gets (j := 2) rfl (Or.inr ⟨_, w_912⟩) dWo_movedWithin_10 ?_
  refine ax_iload_n (i := 2) dWo_movedWithin_13 rfl rfl ?_
  replace hf := bd1_s hf
  obtain ⟨x3, e_x3, hf⟩ := hf
  refine ax_lald dWo_movedWithin_14 e_x3 ?_
  refine ax_ldc2 w_914 dWo_movedWithin_15 ?_
  refine ax_lxor dWo_movedWithin_18 ?_
  refine ax_land dWo_movedWithin_19 ?_
  replace hf := bd1_s hf
  obtain ⟨x4, e_x4, hf⟩ := hf
  refine ax_nmJ (Option.some.inj e_x4) ?_
  refine ax_lstore (i := 6) [some (.long p1), none, some (.int p2), some (.int p3), some (.long x2), none, some (.long x4), none] dWo_movedWithin_20 (Nat.le_of_ble_eq_true rfl) (Or.inr (c1n rfl)) rfl ?_
  refine ax_iload_n (i := 3) dWo_movedWithin_22 rfl rfl ?_
  replace hf := ite_c hf
  rcases hf with ⟨hc, hf⟩ | ⟨hc, hf⟩
  · refine ax_if_eqT 38 dWo_movedWithin_23 (by decide) hc ?_
    refine ax_lload (i := 6) dWo_movedWithin_38 rfl ?_
    refine ax_lload (i := 4) dWo_movedWithin_40 rfl ?_
    refine ax_iconst (1 : Int32) dWo_movedWithin_42 k32_1 ?_
    refine ax_iload_n (i := 2) dWo_movedWithin_43 rfl rfl ?_
    refine ax_ishl dWo_movedWithin_44 ?_
    refine ax_lushr dWo_movedWithin_45 ?_
    refine ax_lor dWo_movedWithin_46 ?_
    cases hf
    exact Hr _ _ dWo_movedWithin_47
  · refine ax_if_eqF 38 dWo_movedWithin_23 (by decide) hc ?_
    refine ax_lload (i := 4) dWo_movedWithin_26 rfl ?_
    refine ax_lload (i := 6) dWo_movedWithin_28 rfl ?_
    refine ax_iconst (1 : Int32) dWo_movedWithin_30 k32_1 ?_
    refine ax_iload_n (i := 2) dWo_movedWithin_31 rfl rfl ?_
    refine ax_ishl dWo_movedWithin_32 ?_
    refine ax_lshl dWo_movedWithin_33 ?_
    refine ax_lor dWo_movedWithin_34 ?_
    refine ax_goto 47 dWo_movedWithin_35 (by decide) ?_
    cases hf
    exact Hr _ _ dWo_movedWithin_47
theorem c_Wo_movedWithin {l : Launch} {E : EN} {h0 : AH} {p1 : Int64} {p2 : Int32} {p3 : Int32} {r : Int64} (hf : f_Wo_movedWithin h0 p1 p2 p3 = some r) : AM l E 1 mi_Wo_movedWithin [.long p1, .int p2, .int p3] h0 (some (.long r)) h0 :=
  am_of2 [(.long p1, true), (.int p2, false), (.int p3, false)] 4 ⟨rfl, rfl, rfl, trivial⟩ rfl rfl (v_Wo_movedWithin (Nat.le_refl _) (Nat.le_refl _) (fun pc L hd => ax_lret rfl hd rfl) hf)
theorem w_Wo_move_L2 {l : Launch} {E : EN} {R : Room} {B : (Nat × Nat) × (Nat × Nat)} {Qf : QF} {hF : AH} (hR1 : 2 ≤ R.frames) (hR2 : 128 ≤ R.locals) (Hr : ∀ (pc : Nat) (L : List (Option Value)), decode mi_Wo_move.2.1 pc = .ok (.return_, 1) → AW l E mi_Wo_move R B Qf pc L [] hF) {y0 : Nat} {y1 : Int32} {y2 : Int32} : ∀ (n : Nat) (z3 : Int32) (h : AH), f_Wo_move_L2 y0 y1 y2 n z3 h = some hF → AW l E mi_Wo_move R B Qf 2 [some (va_rf (some y0)), some (.int y1), some (.int y2), some (.int z3), none] [] h := by
  intro n
  induction n with
  | zero => intro z3 h hf; cases hf
  | succ n ih =>
    intro z3 h hf
    rw [f_Wo_move_L2] at hf
    refine ax_iload_n (i := 3) dWo_move_2 rfl rfl ?_
    refine ax_bipush (64 : Int32) dWo_move_3 k8_64 ?_
    replace hf := ite_c hf
    rcases hf with ⟨hc, hf⟩ | ⟨hc, hf⟩
    · refine ax_icmp_geF 86 dWo_move_5 (by decide) hc ?_
      refine ax_iload_n (i := 1) dWo_move_8 rfl rfl ?_
      refine ax_bipush (6 : Int32) dWo_move_9 k8_6 ?_
      replace hf := ite_c hf
      rcases hf with ⟨hc, hf⟩ | ⟨hc, hf⟩
      · refine ax_icmp_geF 34 dWo_move_11 (by decide) hc ?_
        refine ax_aload_n (i := 0) (some y0) dWo_move_14 rfl rfl ?_
        replace hf := bd1_s hf
        obtain ⟨r13, e_r13, hf⟩ := hf
        refine ax_getR fl_294 rfl dWo_move_15 e_r13 ?_
        refine ax_iload_n (i := 3) dWo_move_18 rfl rfl ?_
        refine ax_aload_n (i := 0) (some y0) dWo_move_19 rfl rfl ?_
        replace hf := bd1_s hf
        obtain ⟨r14, e_r14, hf⟩ := hf
        refine ax_getR fl_294 rfl dWo_move_20 e_r14 ?_
        refine ax_iload_n (i := 3) dWo_move_23 rfl rfl ?_
        replace hf := bd1_s hf
        obtain ⟨a15, e_d, hf⟩ := hf
        subst e_d
        replace hf := bd1_s hf
        obtain ⟨x16, e_x16, hf⟩ := hf
        refine ax_lald dWo_move_24 e_x16 ?_
        refine ax_iload_n (i := 1) dWo_move_25 rfl rfl ?_
        refine ax_iload_n (i := 2) dWo_move_26 rfl rfl ?_
        replace hf := bd1_s hf
        obtain ⟨x17, e_x17, hf⟩ := hf
        refine ax_callS (As := [.long x16, .int y1, .int y2]) (rest := [.int z3, va_rf r13]) (c_Wo_movedWithin e_x17) ml_919 cm_Wo_movedWithin (Nat.le_trans (Nat.le_of_ble_eq_true rfl) hR1) (Nat.le_trans (Nat.le_of_ble_eq_true rfl) hR2) rfl rfl (by simp only [List.map_cons, List.map_nil, List.sum_cons, List.sum_nil, cat_rf]; exact Nat.le_of_ble_eq_true rfl) dWo_move_27 ?_
        replace hf := bd1_s hf
        obtain ⟨a18, e_d, hf⟩ := hf
        subst e_d
        replace hf := bd1_s hf
        obtain ⟨h19, e_h19, hf⟩ := hf
        refine ax_last dWo_move_30 e_h19 ?_
        refine ax_goto 80 dWo_move_31 (by decide) ?_
        refine ax_iinc (i := 3) (z3 + (1 : Int32)) [some (va_rf (some y0)), some (.int y1), some (.int y2), some (.int (z3 + (1 : Int32))), none] dWo_move_80 rfl (iic k32_1) (Or.inr (c1i rfl)) rfl ?_
        refine ax_goto 2 dWo_move_83 (by decide) ?_
        exact ih (z3 + (1 : Int32)) h19 hf
      · refine ax_icmp_geT 34 dWo_move_11 (by decide) hc ?_
        refine ax_iload_n (i := 3) dWo_move_34 rfl rfl ?_
        refine ax_iload_n (i := 1) dWo_move_35 rfl rfl ?_
        refine ax_bipush (6 : Int32) dWo_move_36 k8_6 ?_
        refine ax_isub dWo_move_38 ?_
        replace hf := bd1_s hf
        obtain ⟨x1, e_x1, hf⟩ := hf
        refine ax_callS (As := [.int z3, .int (y1 - (6 : Int32))]) (rest := []) (c_C_hasBit e_x1) ml_904 cm_C_hasBit (Nat.le_trans (Nat.le_of_ble_eq_true rfl) hR1) (Nat.le_trans (Nat.le_of_ble_eq_true rfl) hR2) rfl rfl (Nat.le_of_ble_eq_true rfl) dWo_move_39 ?_
        refine ax_iload_n (i := 2) dWo_move_42 rfl rfl ?_
        replace hf := ite_c hf
        rcases hf with ⟨hc, hf⟩ | ⟨hc, hf⟩
        · refine ax_icmp_neF 80 dWo_move_43 (by decide) hc ?_
          refine ax_iload_n (i := 3) dWo_move_46 rfl rfl ?_
          refine ax_iconst (1 : Int32) dWo_move_47 k32_1 ?_
          refine ax_iload_n (i := 1) dWo_move_48 rfl rfl ?_
          refine ax_bipush (6 : Int32) dWo_move_49 k8_6 ?_
          refine ax_isub dWo_move_51 ?_
          refine ax_ishl dWo_move_52 ?_
          refine ax_ixor dWo_move_53 ?_
          replace hf := bd1_s hf
          obtain ⟨x2, e_x2, hf⟩ := hf
          refine ax_nmI (Option.some.inj e_x2) ?_
          refine ax_istore (i := 4) [some (va_rf (some y0)), some (.int y1), some (.int y2), some (.int z3), some (.int x2)] dWo_move_54 (Nat.le_of_ble_eq_true rfl) (Or.inr (c1i rfl)) rfl ?_
          refine ax_aload_n (i := 0) (some y0) dWo_move_56 rfl rfl ?_
          replace hf := bd1_s hf
          obtain ⟨r3, e_r3, hf⟩ := hf
          refine ax_getR fl_294 rfl dWo_move_57 e_r3 ?_
          refine ax_iload_n (i := 3) dWo_move_60 rfl rfl ?_
          refine ax_dup2 dWo_move_61 rfl (cat_rf _) ?_
          replace hf := bd1_s hf
          obtain ⟨a4, e_d, hf⟩ := hf
          subst e_d
          replace hf := bd1_s hf
          obtain ⟨x5, e_x5, hf⟩ := hf
          refine ax_lald dWo_move_62 e_x5 ?_
          refine ax_aload_n (i := 0) (some y0) dWo_move_63 rfl rfl ?_
          replace hf := bd1_s hf
          obtain ⟨r6, e_r6, hf⟩ := hf
          refine ax_getR fl_294 rfl dWo_move_64 e_r6 ?_
          refine ax_iload (i := 4) dWo_move_67 rfl ?_
          replace hf := bd1_s hf
          obtain ⟨a7, e_d, hf⟩ := hf
          subst e_d
          replace hf := bd1_s hf
          obtain ⟨x8, e_x8, hf⟩ := hf
          refine ax_lald dWo_move_69 e_x8 ?_
          refine ax_lor dWo_move_70 ?_
          replace hf := bd1_s hf
          obtain ⟨h9, e_h9, hf⟩ := hf
          refine ax_last dWo_move_71 e_h9 ?_
          refine ax_aload_n (i := 0) (some y0) dWo_move_72 rfl rfl ?_
          replace hf := bd1_s hf
          obtain ⟨r10, e_r10, hf⟩ := hf
          refine ax_getR fl_294 rfl dWo_move_73 e_r10 ?_
          refine ax_iload (i := 4) dWo_move_76 rfl ?_
          refine ax_lconst (0 : Int64) dWo_move_78 kl_0 ?_
          replace hf := bd1_s hf
          obtain ⟨a11, e_d, hf⟩ := hf
          subst e_d
          replace hf := bd1_s hf
          obtain ⟨h12, e_h12, hf⟩ := hf
          refine ax_last dWo_move_79 e_h12 ?_
          refine ax_iinc (i := 3) (z3 + (1 : Int32)) [some (va_rf (some y0)), some (.int y1), some (.int y2), some (.int (z3 + (1 : Int32))), some (.int x2)] dWo_move_80 rfl (iic k32_1) (Or.inr (c1i rfl)) rfl ?_
          refine ax_goto 2 dWo_move_83 (by decide) ?_
          refine ax_mask [true, true, true, true, false] rfl [some (va_rf (some y0)), some (.int y1), some (.int y2), some (.int (z3 + (1 : Int32))), none] rfl ?_
          exact ih (z3 + (1 : Int32)) h12 hf
        · refine ax_icmp_neT 80 dWo_move_43 (by decide) hc ?_
          refine ax_iinc (i := 3) (z3 + (1 : Int32)) [some (va_rf (some y0)), some (.int y1), some (.int y2), some (.int (z3 + (1 : Int32))), none] dWo_move_80 rfl (iic k32_1) (Or.inr (c1i rfl)) rfl ?_
          refine ax_goto 2 dWo_move_83 (by decide) ?_
          exact ih (z3 + (1 : Int32)) h hf
    · refine ax_icmp_geT 86 dWo_move_5 (by decide) hc ?_
      cases hf
      exact Hr _ _ dWo_move_86
theorem v_Wo_move {l : Launch} {E : EN} {R : Room} {B : (Nat × Nat) × (Nat × Nat)} {Qf : QF} {h0 : AH} {o : Nat} {p1 : Int32} {p2 : Int32} {hF : AH} (hR1 : 2 ≤ R.frames) (hR2 : 128 ≤ R.locals) (Hr : ∀ (pc : Nat) (L : List (Option Value)), decode mi_Wo_move.2.1 pc = .ok (.return_, 1) → AW l E mi_Wo_move R B Qf pc L [] hF) (hf : f_Wo_move h0 o p1 p2 = some hF) : AW l E mi_Wo_move R B Qf 0 [some (va_rf (some o)), some (.int p1), some (.int p2), none, none] [] h0 := by
  unfold f_Wo_move at hf
  refine ax_iconst (0 : Int32) dWo_move_0 k32_0 ?_
  refine ax_istore_n (i := 3) [some (va_rf (some o)), some (.int p1), some (.int p2), some (.int (0 : Int32)), none] dWo_move_1 rfl (Nat.le_of_ble_eq_true rfl) (Or.inr (c1i rfl)) rfl ?_
  refine w_Wo_move_L2 hR1 hR2 Hr FU (0 : Int32) h0 hf
theorem c_Wo_move {l : Launch} {E : EN} {h0 : AH} {o : Nat} {p1 : Int32} {p2 : Int32} {hF : AH} (hf : f_Wo_move h0 o p1 p2 = some hF) : AM l E 2 mi_Wo_move [va_rf (some o), .int p1, .int p2] h0 none hF :=
  am_of2 [(va_rf (some o), false), (.int p1, false), (.int p2, false)] 2 ⟨cat_rf _, rfl, rfl, trivial⟩ rfl rfl (v_Wo_move (Nat.le_refl _) (Nat.le_refl _) (fun pc L hd => ax_vret rfl hd rfl) hf)
theorem w_Wo_change_L2 {l : Launch} {E : EN} {R : Room} {B : (Nat × Nat) × (Nat × Nat)} {Qf : QF} {ρ : Type} {res : ρ} (hR1 : 4 ≤ R.frames) (hR2 : 256 ≤ R.locals) {y0 : Nat} {y1 : Option Nat} {k : AH → Option (ρ)} (hk : ∀ (h : AH), k h = some res → AW l E mi_Wo_change R B Qf 33 [some (va_rf (some y0)), some (va_rf y1), none] [] h) : ∀ (n : Nat) (z2 : Int32) (h : AH), f_Wo_change_L2 y0 y1 k n z2 h = some res → AW l E mi_Wo_change R B Qf 2 [some (va_rf (some y0)), some (va_rf y1), some (.int z2)] [] h := by
  intro n
  induction n with
  | zero => intro z2 h hf; cases hf
  | succ n ih =>
    intro z2 h hf
    rw [f_Wo_change_L2] at hf
    refine ax_iload_n (i := 2) dWo_change_2 rfl rfl ?_
    refine ax_bipush (12 : Int32) dWo_change_3 k8_12 ?_
    replace hf := ite_c hf
    rcases hf with ⟨hc, hf⟩ | ⟨hc, hf⟩
    · refine ax_icmp_geF 33 dWo_change_5 (by decide) hc ?_
      refine ax_aload_n (i := 1) y1 dWo_change_8 rfl rfl ?_
      replace hf := bd1_s hf
      obtain ⟨a1, e_d, hf⟩ := hf
      subst e_d
      replace hf := bd1_s hf
      obtain ⟨r2, e_r2, hf⟩ := hf
      refine ax_getR fl_705 rfl dWo_change_9 e_r2 ?_
      refine ax_iconst (5 : Int32) dWo_change_12 k32_5 ?_
      replace hf := bd1_s hf
      obtain ⟨a3, e_d, hf⟩ := hf
      subst e_d
      replace hf := bd1_s hf
      obtain ⟨x4, e_x4, hf⟩ := hf
      refine ax_iald dWo_change_13 e_x4 ?_
      refine ax_iload_n (i := 2) dWo_change_14 rfl rfl ?_
      replace hf := bd1_s hf
      obtain ⟨x5, e_x5, hf⟩ := hf
      refine ax_callS (As := [.int x4, .int z2]) (rest := []) (c_C_hasBit e_x5) ml_904 cm_C_hasBit (Nat.le_trans (Nat.le_of_ble_eq_true rfl) hR1) (Nat.le_trans (Nat.le_of_ble_eq_true rfl) hR2) rfl rfl (Nat.le_of_ble_eq_true rfl) dWo_change_15 ?_
      replace hf := ite_c hf
      rcases hf with ⟨hc, hf⟩ | ⟨hc, hf⟩
      · refine ax_if_eqT 27 dWo_change_18 (by decide) hc ?_
        refine ax_iinc (i := 2) (z2 + (1 : Int32)) [some (va_rf (some y0)), some (va_rf (some a1)), some (.int (z2 + (1 : Int32)))] dWo_change_27 rfl (iic k32_1) (Or.inr (c1r rfl)) rfl ?_
        refine ax_goto 2 dWo_change_30 (by decide) ?_
        exact ih (z2 + (1 : Int32)) h hf
      · refine ax_if_eqF 27 dWo_change_18 (by decide) hc ?_
        refine ax_aload_n (i := 0) (some y0) dWo_change_21 rfl rfl ?_
        refine ax_iload_n (i := 2) dWo_change_22 rfl rfl ?_
        refine ax_iconst (1 : Int32) dWo_change_23 k32_1 ?_
        replace hf := bd1_s hf
        obtain ⟨h6, e_h6, hf⟩ := hf
        obtain ⟨k_e_h6, e_h6⟩ := cv_s e_h6
        refine ax_callV (As := [.int z2, .int (1 : Int32)]) (rest := []) (c_Wo_keep e_h6) ml_905 cm_Wo_keep rfl k_e_h6 (Nat.le_trans (Nat.le_of_ble_eq_true rfl) hR1) (Nat.le_trans (Nat.le_of_ble_eq_true rfl) hR2) rfl rfl (Nat.le_of_ble_eq_true rfl) dWo_change_24 ?_
        refine ax_iinc (i := 2) (z2 + (1 : Int32)) [some (va_rf (some y0)), some (va_rf (some a1)), some (.int (z2 + (1 : Int32)))] dWo_change_27 rfl (iic k32_1) (Or.inr (c1r rfl)) rfl ?_
        refine ax_goto 2 dWo_change_30 (by decide) ?_
        exact ih (z2 + (1 : Int32)) h6 hf
    · refine ax_icmp_geT 33 dWo_change_5 (by decide) hc ?_
      refine ax_mask [true, true, false] rfl [some (va_rf (some y0)), some (va_rf y1), none] rfl ?_
      exact hk h hf
theorem w_Wo_change_L35 {l : Launch} {E : EN} {R : Room} {B : (Nat × Nat) × (Nat × Nat)} {Qf : QF} {hF : AH} (hR1 : 4 ≤ R.frames) (hR2 : 256 ≤ R.locals) (Hr : ∀ (pc : Nat) (L : List (Option Value)), decode mi_Wo_change.2.1 pc = .ok (.return_, 1) → AW l E mi_Wo_change R B Qf pc L [] hF) {y0 : Nat} {y1 : Option Nat} : ∀ (n : Nat) (z2 : Int32) (h : AH), f_Wo_change_L35 y0 y1 n z2 h = some hF → AW l E mi_Wo_change R B Qf 35 [some (va_rf (some y0)), some (va_rf y1), some (.int z2)] [] h := by
  intro n
  induction n with
  | zero => intro z2 h hf; cases hf
  | succ n ih =>
    intro z2 h hf
    rw [f_Wo_change_L35] at hf
    refine ax_iload_n (i := 2) dWo_change_35 rfl rfl ?_
    refine ax_bipush (12 : Int32) dWo_change_36 k8_12 ?_
    replace hf := ite_c hf
    rcases hf with ⟨hc, hf⟩ | ⟨hc, hf⟩
    · refine ax_icmp_geF 90 dWo_change_38 (by decide) hc ?_
      refine ax_aload_n (i := 1) y1 dWo_change_41 rfl rfl ?_
      replace hf := bd1_s hf
      obtain ⟨a8, e_d, hf⟩ := hf
      subst e_d
      replace hf := bd1_s hf
      obtain ⟨r9, e_r9, hf⟩ := hf
      refine ax_getR fl_705 rfl dWo_change_42 e_r9 ?_
      refine ax_bipush (6 : Int32) dWo_change_45 k8_6 ?_
      replace hf := bd1_s hf
      obtain ⟨a10, e_d, hf⟩ := hf
      subst e_d
      replace hf := bd1_s hf
      obtain ⟨x11, e_x11, hf⟩ := hf
      refine ax_iald dWo_change_47 e_x11 ?_
      refine ax_iload_n (i := 2) dWo_change_48 rfl rfl ?_
      replace hf := bd1_s hf
      obtain ⟨x12, e_x12, hf⟩ := hf
      refine ax_callS (As := [.int x11, .int z2]) (rest := []) (c_C_hasBit e_x12) ml_904 cm_C_hasBit (Nat.le_trans (Nat.le_of_ble_eq_true rfl) hR1) (Nat.le_trans (Nat.le_of_ble_eq_true rfl) hR2) rfl rfl (Nat.le_of_ble_eq_true rfl) dWo_change_49 ?_
      replace hf := ite_c hf
      rcases hf with ⟨hc, hf⟩ | ⟨hc, hf⟩
      · refine ax_if_eqT 64 dWo_change_52 (by decide) hc ?_
        refine ax_aload_n (i := 1) (some a8) dWo_change_64 rfl rfl ?_
        replace hf := bd1_s hf
        obtain ⟨r13, e_r13, hf⟩ := hf
        refine ax_getR fl_705 rfl dWo_change_65 e_r13 ?_
        refine ax_bipush (7 : Int32) dWo_change_68 k8_7 ?_
        replace hf := bd1_s hf
        obtain ⟨a14, e_d, hf⟩ := hf
        subst e_d
        replace hf := bd1_s hf
        obtain ⟨x15, e_x15, hf⟩ := hf
        refine ax_iald dWo_change_70 e_x15 ?_
        refine ax_iload_n (i := 2) dWo_change_71 rfl rfl ?_
        replace hf := bd1_s hf
        obtain ⟨x16, e_x16, hf⟩ := hf
        refine ax_callS (As := [.int x15, .int z2]) (rest := []) (c_C_hasBit e_x16) ml_904 cm_C_hasBit (Nat.le_trans (Nat.le_of_ble_eq_true rfl) hR1) (Nat.le_trans (Nat.le_of_ble_eq_true rfl) hR2) rfl rfl (Nat.le_of_ble_eq_true rfl) dWo_change_72 ?_
        replace hf := ite_c hf
        rcases hf with ⟨hc, hf⟩ | ⟨hc, hf⟩
        · refine ax_if_eqT 84 dWo_change_75 (by decide) hc ?_
          refine ax_iinc (i := 2) (z2 + (1 : Int32)) [some (va_rf (some y0)), some (va_rf (some a8)), some (.int (z2 + (1 : Int32)))] dWo_change_84 rfl (iic k32_1) (Or.inr (c1r rfl)) rfl ?_
          refine ax_goto 35 dWo_change_87 (by decide) ?_
          exact ih (z2 + (1 : Int32)) h hf
        · refine ax_if_eqF 84 dWo_change_75 (by decide) hc ?_
          refine ax_aload_n (i := 0) (some y0) dWo_change_78 rfl rfl ?_
          refine ax_iload_n (i := 2) dWo_change_79 rfl rfl ?_
          refine ax_iconst (0 : Int32) dWo_change_80 k32_0 ?_
          replace hf := bd1_s hf
          obtain ⟨h17, e_h17, hf⟩ := hf
          obtain ⟨k_e_h17, e_h17⟩ := cv_s e_h17
          refine ax_callV (As := [.int z2, .int (0 : Int32)]) (rest := []) (c_Wo_move e_h17) ml_915 cm_Wo_move rfl k_e_h17 (Nat.le_trans (Nat.le_of_ble_eq_true rfl) hR1) (Nat.le_trans (Nat.le_of_ble_eq_true rfl) hR2) rfl rfl (Nat.le_of_ble_eq_true rfl) dWo_change_81 ?_
          refine ax_iinc (i := 2) (z2 + (1 : Int32)) [some (va_rf (some y0)), some (va_rf (some a8)), some (.int (z2 + (1 : Int32)))] dWo_change_84 rfl (iic k32_1) (Or.inr (c1r rfl)) rfl ?_
          refine ax_goto 35 dWo_change_87 (by decide) ?_
          exact ih (z2 + (1 : Int32)) h17 hf
      · refine ax_if_eqF 64 dWo_change_52 (by decide) hc ?_
        refine ax_aload_n (i := 0) (some y0) dWo_change_55 rfl rfl ?_
        refine ax_iload_n (i := 2) dWo_change_56 rfl rfl ?_
        refine ax_iconst (1 : Int32) dWo_change_57 k32_1 ?_
        replace hf := bd1_s hf
        obtain ⟨h18, e_h18, hf⟩ := hf
        obtain ⟨k_e_h18, e_h18⟩ := cv_s e_h18
        refine ax_callV (As := [.int z2, .int (1 : Int32)]) (rest := []) (c_Wo_move e_h18) ml_915 cm_Wo_move rfl k_e_h18 (Nat.le_trans (Nat.le_of_ble_eq_true rfl) hR1) (Nat.le_trans (Nat.le_of_ble_eq_true rfl) hR2) rfl rfl (Nat.le_of_ble_eq_true rfl) dWo_change_58 ?_
        refine ax_goto 84 dWo_change_61 (by decide) ?_
        refine ax_iinc (i := 2) (z2 + (1 : Int32)) [some (va_rf (some y0)), some (va_rf (some a8)), some (.int (z2 + (1 : Int32)))] dWo_change_84 rfl (iic k32_1) (Or.inr (c1r rfl)) rfl ?_
        refine ax_goto 35 dWo_change_87 (by decide) ?_
        exact ih (z2 + (1 : Int32)) h18 hf
    · refine ax_icmp_geT 90 dWo_change_38 (by decide) hc ?_
      cases hf
      exact Hr _ _ dWo_change_90
theorem v_Wo_change {l : Launch} {E : EN} {R : Room} {B : (Nat × Nat) × (Nat × Nat)} {Qf : QF} {h0 : AH} {o : Nat} {p1 : Option Nat} {hF : AH} (hR1 : 4 ≤ R.frames) (hR2 : 256 ≤ R.locals) (Hr : ∀ (pc : Nat) (L : List (Option Value)), decode mi_Wo_change.2.1 pc = .ok (.return_, 1) → AW l E mi_Wo_change R B Qf pc L [] hF) (hf : f_Wo_change h0 o p1 = some hF) : AW l E mi_Wo_change R B Qf 0 [some (va_rf (some o)), some (va_rf p1), none] [] h0 := by
  unfold f_Wo_change at hf
  refine ax_iconst (0 : Int32) dWo_change_0 k32_0 ?_
  refine ax_istore_n (i := 2) [some (va_rf (some o)), some (va_rf p1), some (.int (0 : Int32))] dWo_change_1 rfl (Nat.le_of_ble_eq_true rfl) (Or.inr (c1r rfl)) rfl ?_
  refine w_Wo_change_L2 hR1 hR2 (fun h7 hf => ?_) FU (0 : Int32) h0 hf
  refine ax_iconst (0 : Int32) dWo_change_33 k32_0 ?_
  refine ax_istore_n (i := 2) [some (va_rf (some o)), some (va_rf p1), some (.int (0 : Int32))] dWo_change_34 rfl (Nat.le_of_ble_eq_true rfl) (Or.inr (c1r rfl)) rfl ?_
  refine w_Wo_change_L35 hR1 hR2 Hr FU (0 : Int32) h7 hf
theorem c_Wo_change {l : Launch} {E : EN} {h0 : AH} {o : Nat} {p1 : Option Nat} {hF : AH} (hf : f_Wo_change h0 o p1 = some hF) : AM l E 4 mi_Wo_change [va_rf (some o), va_rf p1] h0 none hF :=
  am_of2 [(va_rf (some o), false), (va_rf p1, false)] 1 ⟨cat_rf _, cat_rf _, trivial⟩ rfl rfl (v_Wo_change (Nat.le_refl _) (Nat.le_refl _) (fun pc L hd => ax_vret rfl hd rfl) hf)
theorem w_Wo_add_L2 {l : Launch} {E : EN} {R : Room} {B : (Nat × Nat) × (Nat × Nat)} {Qf : QF} {hF : AH} (hR1 : 1 ≤ R.frames) (hR2 : 64 ≤ R.locals) (Hr : ∀ (pc : Nat) (L : List (Option Value)), decode mi_Wo_add.2.1 pc = .ok (.return_, 1) → AW l E mi_Wo_add R B Qf pc L [] hF) {y0 : Nat} {y1 : Option Nat} : ∀ (n : Nat) (z2 : Int32) (h : AH), f_Wo_add_L2 y0 y1 n z2 h = some hF → AW l E mi_Wo_add R B Qf 2 [some (va_rf (some y0)), some (va_rf y1), some (.int z2)] [] h := by
  intro n
  induction n with
  | zero => intro z2 h hf; cases hf
  | succ n ih =>
    intro z2 h hf
    rw [f_Wo_add_L2] at hf
    refine ax_iload_n (i := 2) dWo_add_2 rfl rfl ?_
    refine ax_bipush (64 : Int32) dWo_add_3 k8_64 ?_
    replace hf := ite_c hf
    rcases hf with ⟨hc, hf⟩ | ⟨hc, hf⟩
    · refine ax_icmp_geF 29 dWo_add_5 (by decide) hc ?_
      refine ax_aload_n (i := 0) (some y0) dWo_add_8 rfl rfl ?_
      replace hf := bd1_s hf
      obtain ⟨r1, e_r1, hf⟩ := hf
      refine ax_getR fl_294 rfl dWo_add_9 e_r1 ?_
      refine ax_iload_n (i := 2) dWo_add_12 rfl rfl ?_
      refine ax_dup2 dWo_add_13 rfl (cat_rf _) ?_
      replace hf := bd1_s hf
      obtain ⟨a2, e_d, hf⟩ := hf
      subst e_d
      replace hf := bd1_s hf
      obtain ⟨x3, e_x3, hf⟩ := hf
      refine ax_lald dWo_add_14 e_x3 ?_
      refine ax_aload_n (i := 1) y1 dWo_add_15 rfl rfl ?_
      replace hf := bd1_s hf
      obtain ⟨a4, e_d, hf⟩ := hf
      subst e_d
      replace hf := bd1_s hf
      obtain ⟨r5, e_r5, hf⟩ := hf
      refine ax_getR fl_294 rfl dWo_add_16 e_r5 ?_
      refine ax_iload_n (i := 2) dWo_add_19 rfl rfl ?_
      replace hf := bd1_s hf
      obtain ⟨a6, e_d, hf⟩ := hf
      subst e_d
      replace hf := bd1_s hf
      obtain ⟨x7, e_x7, hf⟩ := hf
      refine ax_lald dWo_add_20 e_x7 ?_
      refine ax_lor dWo_add_21 ?_
      replace hf := bd1_s hf
      obtain ⟨h8, e_h8, hf⟩ := hf
      refine ax_last dWo_add_22 e_h8 ?_
      refine ax_iinc (i := 2) (z2 + (1 : Int32)) [some (va_rf (some y0)), some (va_rf (some a4)), some (.int (z2 + (1 : Int32)))] dWo_add_23 rfl (iic k32_1) (Or.inr (c1r rfl)) rfl ?_
      refine ax_goto 2 dWo_add_26 (by decide) ?_
      exact ih (z2 + (1 : Int32)) h8 hf
    · refine ax_icmp_geT 29 dWo_add_5 (by decide) hc ?_
      cases hf
      exact Hr _ _ dWo_add_29
theorem v_Wo_add {l : Launch} {E : EN} {R : Room} {B : (Nat × Nat) × (Nat × Nat)} {Qf : QF} {h0 : AH} {o : Nat} {p1 : Option Nat} {hF : AH} (hR1 : 1 ≤ R.frames) (hR2 : 64 ≤ R.locals) (Hr : ∀ (pc : Nat) (L : List (Option Value)), decode mi_Wo_add.2.1 pc = .ok (.return_, 1) → AW l E mi_Wo_add R B Qf pc L [] hF) (hf : f_Wo_add h0 o p1 = some hF) : AW l E mi_Wo_add R B Qf 0 [some (va_rf (some o)), some (va_rf p1), none] [] h0 := by
  unfold f_Wo_add at hf
  refine ax_iconst (0 : Int32) dWo_add_0 k32_0 ?_
  refine ax_istore_n (i := 2) [some (va_rf (some o)), some (va_rf p1), some (.int (0 : Int32))] dWo_add_1 rfl (Nat.le_of_ble_eq_true rfl) (Or.inr (c1r rfl)) rfl ?_
  refine w_Wo_add_L2 hR1 hR2 Hr FU (0 : Int32) h0 hf
theorem c_Wo_add {l : Launch} {E : EN} {h0 : AH} {o : Nat} {p1 : Option Nat} {hF : AH} (hf : f_Wo_add h0 o p1 = some hF) : AM l E 1 mi_Wo_add [va_rf (some o), va_rf p1] h0 none hF :=
  am_of2 [(va_rf (some o), false), (va_rf p1, false)] 1 ⟨cat_rf _, cat_rf _, trivial⟩ rfl rfl (v_Wo_add (Nat.le_refl _) (Nat.le_refl _) (fun pc L hd => ax_vret rfl hd rfl) hf)
theorem v_Lo_addCall {l : Launch} {E : EN} {R : Room} {B : (Nat × Nat) × (Nat × Nat)} {Qf : QF} {h0 : AH} {o : Nat} {p1 : Option Nat} {p2 : Int32} {hF : AH} (hR1 : 5 ≤ R.frames) (hR2 : 320 ≤ R.locals) (Hr : ∀ (pc : Nat) (L : List (Option Value)), decode mi_Lo_addCall.2.1 pc = .ok (.return_, 1) → AW l E mi_Lo_addCall R B Qf pc L [] hF) (hf : f_Lo_addCall h0 o p1 p2 = some hF) : AW l E mi_Lo_addCall R B Qf 0 [some (va_rf (some o)), some (va_rf p1), some (.int p2), none] [] h0 := by
  unfold f_Lo_addCall at hf
  refine ax_aload_n (i := 0) (some o) dLo_addCall_0 rfl rfl ?_
  replace hf := bd2_s hf
  obtain ⟨r1, h2, e_r1, hf⟩ := hf
  obtain ⟨k_e_r1, e_r1⟩ := cv_s e_r1
  refine ax_callV (As := []) (rest := []) (c_Lo_addEvent e_r1) ml_891 cm_Lo_addEvent rfl k_e_r1 (Nat.le_trans (Nat.le_of_ble_eq_true rfl) hR1) (Nat.le_trans (Nat.le_of_ble_eq_true rfl) hR2) rfl rfl (Nat.le_of_ble_eq_true rfl) dLo_addCall_1 ?_
  refine ax_astore_n (i := 3) (r := r1) [some (va_rf (some o)), some (va_rf p1), some (.int p2), some (va_rf r1)] dLo_addCall_4 rfl (Nat.le_of_ble_eq_true rfl) (Or.inr (c1i rfl)) rfl ?_
  refine ax_iload_n (i := 2) dLo_addCall_5 rfl rfl ?_
  replace hf := ite_c hf
  rcases hf with ⟨hc, hf⟩ | ⟨hc, hf⟩
  · refine ax_if_neF 17 dLo_addCall_6 (by decide) hc ?_
    refine ax_aload_n (i := 3) r1 dLo_addCall_9 rfl rfl ?_
    refine ax_aload_n (i := 1) p1 dLo_addCall_10 rfl rfl ?_
    replace hf := bd1_s hf
    obtain ⟨a12, e_d, hf⟩ := hf
    subst e_d
    replace hf := bd1_s hf
    obtain ⟨h13, e_h13, hf⟩ := hf
    obtain ⟨k_e_h13, e_h13⟩ := cv_s e_h13
    refine ax_callV (As := [va_rf p1]) (rest := []) (c_Wo_change e_h13) ml_900 cm_Wo_change rfl k_e_h13 (Nat.le_trans (Nat.le_of_ble_eq_true rfl) hR1) (Nat.le_trans (Nat.le_of_ble_eq_true rfl) hR2) rfl rfl (Nat.le_of_ble_eq_true rfl) dLo_addCall_11 ?_
    refine ax_goto 46 dLo_addCall_14 (by decide) ?_
    cases hf
    exact Hr _ _ dLo_addCall_46
  · refine ax_if_neT 17 dLo_addCall_6 (by decide) hc ?_
    refine ax_iload_n (i := 2) dLo_addCall_17 rfl rfl ?_
    refine ax_iconst (2 : Int32) dLo_addCall_18 k32_2 ?_
    replace hf := ite_c hf
    rcases hf with ⟨hc, hf⟩ | ⟨hc, hf⟩
    · refine ax_icmp_neF 46 dLo_addCall_19 (by decide) hc ?_
      refine ax_aload_n (i := 0) (some o) dLo_addCall_22 rfl rfl ?_
      replace hf := bd1_s hf
      obtain ⟨r3, e_r3, hf⟩ := hf
      refine ax_getR fl_302 rfl dLo_addCall_23 e_r3 ?_
      refine ax_aload_n (i := 3) r1 dLo_addCall_26 rfl rfl ?_
      replace hf := bd1_s hf
      obtain ⟨a4, e_d, hf⟩ := hf
      subst e_d
      replace hf := bd1_s hf
      obtain ⟨h5, e_h5, hf⟩ := hf
      obtain ⟨k_e_h5, e_h5⟩ := cv_s e_h5
      refine ax_callV (As := [va_rf r1]) (rest := []) (c_Wo_become e_h5) ml_895 cm_Wo_become rfl k_e_h5 (Nat.le_trans (Nat.le_of_ble_eq_true rfl) hR1) (Nat.le_trans (Nat.le_of_ble_eq_true rfl) hR2) rfl rfl (Nat.le_of_ble_eq_true rfl) dLo_addCall_27 ?_
      refine ax_aload_n (i := 0) (some o) dLo_addCall_30 rfl rfl ?_
      replace hf := bd1_s hf
      obtain ⟨r6, e_r6, hf⟩ := hf
      refine ax_getR fl_302 rfl dLo_addCall_31 e_r6 ?_
      refine ax_aload_n (i := 1) p1 dLo_addCall_34 rfl rfl ?_
      replace hf := bd1_s hf
      obtain ⟨a7, e_d, hf⟩ := hf
      subst e_d
      replace hf := bd1_s hf
      obtain ⟨h8, e_h8, hf⟩ := hf
      obtain ⟨k_e_h8, e_h8⟩ := cv_s e_h8
      refine ax_callV (As := [va_rf p1]) (rest := []) (c_Wo_change e_h8) ml_900 cm_Wo_change rfl k_e_h8 (Nat.le_trans (Nat.le_of_ble_eq_true rfl) hR1) (Nat.le_trans (Nat.le_of_ble_eq_true rfl) hR2) rfl rfl (Nat.le_of_ble_eq_true rfl) dLo_addCall_35 ?_
      refine ax_aload_n (i := 3) r1 dLo_addCall_38 rfl rfl ?_
      refine ax_aload_n (i := 0) (some o) dLo_addCall_39 rfl rfl ?_
      replace hf := bd1_s hf
      obtain ⟨r9, e_r9, hf⟩ := hf
      refine ax_getR fl_302 rfl dLo_addCall_40 e_r9 ?_
      replace hf := bd1_s hf
      obtain ⟨a10, e_d, hf⟩ := hf
      subst e_d
      replace hf := bd1_s hf
      obtain ⟨h11, e_h11, hf⟩ := hf
      obtain ⟨k_e_h11, e_h11⟩ := cv_s e_h11
      refine ax_callV (As := [va_rf r9]) (rest := []) (c_Wo_add e_h11) ml_922 cm_Wo_add rfl k_e_h11 (Nat.le_trans (Nat.le_of_ble_eq_true rfl) hR1) (Nat.le_trans (Nat.le_of_ble_eq_true rfl) hR2) rfl rfl (Nat.le_of_ble_eq_true rfl) dLo_addCall_43 ?_
      cases hf
      exact Hr _ _ dLo_addCall_46
    · refine ax_icmp_neT 46 dLo_addCall_19 (by decide) hc ?_
      cases hf
      exact Hr _ _ dLo_addCall_46
theorem c_Lo_addCall {l : Launch} {E : EN} {h0 : AH} {o : Nat} {p1 : Option Nat} {p2 : Int32} {hF : AH} (hf : f_Lo_addCall h0 o p1 p2 = some hF) : AM l E 5 mi_Lo_addCall [va_rf (some o), va_rf p1, .int p2] h0 none hF :=
  am_of2 [(va_rf (some o), false), (va_rf p1, false), (.int p2, false)] 1 ⟨cat_rf _, cat_rf _, rfl, trivial⟩ rfl rfl (v_Lo_addCall (Nat.le_refl _) (Nat.le_refl _) (fun pc L hd => ax_vret rfl hd rfl) hf)
theorem v_C_call {l : Launch} {E : EN} {R : Room} {B : (Nat × Nat) × (Nat × Nat)} {Qf : QF} {h0 : AH} {o : Nat} {p1 : Int32} {p2 : Int32} {r : Int32} {hF : AH} (hR1 : 6 ≤ R.frames) (hR2 : 384 ≤ R.locals) (Hr : ∀ (pc : Nat) (L : List (Option Value)), decode mi_C_call.2.1 pc = .ok (.ireturn, 1) → AW l E mi_C_call R B Qf pc L [.int r] hF) (hf : f_C_call h0 o p1 p2 = some (r, hF)) : AW l E mi_C_call R B Qf 0 [some (va_rf (some o)), some (.int p1), some (.int p2), none] [] h0 := by
  unfold f_C_call at hf
  refine ax_aload_n (i := 0) (some o) dC_call_0 rfl rfl ?_
  replace hf := bd1_s hf
  obtain ⟨r1, e_r1, hf⟩ := hf
  refine ax_getR fl_329 rfl dC_call_1 e_r1 ?_
  refine ax_iload_n (i := 1) dC_call_4 rfl rfl ?_
  replace hf := bd1_s hf
  obtain ⟨a2, e_d, hf⟩ := hf
  subst e_d
  replace hf := bd1_s hf
  obtain ⟨r3, e_r3, hf⟩ := hf
  obtain ⟨k_e_r3, e_r3⟩ := cv_s e_r3
  refine ax_callV (As := [.int p1]) (rest := []) (c_Ro_helperNumbered e_r3) ml_718 cm_Ro_helperNumbered rfl k_e_r3 (Nat.le_trans (Nat.le_of_ble_eq_true rfl) hR1) (Nat.le_trans (Nat.le_of_ble_eq_true rfl) hR2) rfl rfl (Nat.le_of_ble_eq_true rfl) dC_call_5 ?_
  refine ax_astore_n (i := 3) (r := r3) [some (va_rf (some o)), some (.int p1), some (.int p2), some (va_rf r3)] dC_call_8 rfl (Nat.le_of_ble_eq_true rfl) (Or.inr (c1i rfl)) rfl ?_
  refine ax_aload_n (i := 3) r3 dC_call_9 rfl rfl ?_
  replace hf := onl_s hf
  rcases hf with ⟨e_d, hf⟩ | ⟨a4, e_d, hf⟩
  · subst e_d
    refine ax_ifnonnullF dC_call_10 ?_
    refine ax_bipush (-101 : Int32) dC_call_13 k8_m101 ?_
    cases hf
    exact Hr _ _ dC_call_15
  · subst e_d
    refine ax_ifnonnullT 16 dC_call_10 (by decide) ?_
    refine ax_iload_n (i := 2) dC_call_16 rfl rfl ?_
    replace hf := ite_c hf
    rcases hf with ⟨hc, hf⟩ | ⟨hc, hf⟩
    · refine ax_if_ltT 25 dC_call_17 (by decide) hc ?_
      refine ax_bipush (-102 : Int32) dC_call_25 k8_m102 ?_
      cases hf
      exact Hr _ _ dC_call_27
    · refine ax_if_ltF 25 dC_call_17 (by decide) hc ?_
      refine ax_iload_n (i := 2) dC_call_20 rfl rfl ?_
      refine ax_iconst (2 : Int32) dC_call_21 k32_2 ?_
      replace hf := ite_c hf
      rcases hf with ⟨hc, hf⟩ | ⟨hc, hf⟩
      · refine ax_icmp_leF 28 dC_call_22 (by decide) hc ?_
        refine ax_bipush (-102 : Int32) dC_call_25 k8_m102 ?_
        cases hf
        exact Hr _ _ dC_call_27
      · refine ax_icmp_leT 28 dC_call_22 (by decide) hc ?_
        refine ax_aload_n (i := 0) (some o) dC_call_28 rfl rfl ?_
        replace hf := bd1_s hf
        obtain ⟨r5, e_r5, hf⟩ := hf
        refine ax_getR fl_331 rfl dC_call_29 e_r5 ?_
        replace hf := bd1_s hf
        obtain ⟨a6, e_d, hf⟩ := hf
        subst e_d
        replace hf := bd1_s hf
        obtain ⟨x7, e_x7, hf⟩ := hf
        refine ax_getI fl_301 rfl dC_call_32 e_x7 ?_
        refine ax_bipush (30 : Int32) dC_call_35 k8_30 ?_
        replace hf := ite_c hf
        rcases hf with ⟨hc, hf⟩ | ⟨hc, hf⟩
        · refine ax_icmp_ltT 43 dC_call_37 (by decide) hc ?_
          refine ax_aload_n (i := 0) (some o) dC_call_43 rfl rfl ?_
          replace hf := bd1_s hf
          obtain ⟨r8, e_r8, hf⟩ := hf
          refine ax_getR fl_331 rfl dC_call_44 e_r8 ?_
          refine ax_aload_n (i := 3) (some a4) dC_call_47 rfl rfl ?_
          refine ax_iload_n (i := 2) dC_call_48 rfl rfl ?_
          replace hf := bd1_s hf
          obtain ⟨a9, e_d, hf⟩ := hf
          subst e_d
          replace hf := bd1_s hf
          obtain ⟨h10, e_h10, hf⟩ := hf
          obtain ⟨k_e_h10, e_h10⟩ := cv_s e_h10
          refine ax_callV (As := [va_rf (some a4), .int p2]) (rest := []) (c_Lo_addCall e_h10) ml_887 cm_Lo_addCall rfl k_e_h10 (Nat.le_trans (Nat.le_of_ble_eq_true rfl) hR1) (Nat.le_trans (Nat.le_of_ble_eq_true rfl) hR2) rfl rfl (Nat.le_of_ble_eq_true rfl) dC_call_49 ?_
          refine ax_aload_n (i := 0) (some o) dC_call_52 rfl rfl ?_
          replace hf := bd1_s hf
          obtain ⟨r11, e_r11, hf⟩ := hf
          refine ax_getR fl_331 rfl dC_call_53 e_r11 ?_
          replace hf := bd1_s hf
          obtain ⟨a12, e_d, hf⟩ := hf
          subst e_d
          replace hf := bd1_s hf
          obtain ⟨x13, e_x13, hf⟩ := hf
          refine ax_getI fl_301 rfl dC_call_56 e_x13 ?_
          cases hf
          exact Hr _ _ dC_call_59
        · refine ax_icmp_ltF 43 dC_call_37 (by decide) hc ?_
          refine ax_bipush (-104 : Int32) dC_call_40 k8_m104 ?_
          cases hf
          exact Hr _ _ dC_call_42
theorem c_C_call {l : Launch} {E : EN} {h0 : AH} {o : Nat} {p1 : Int32} {p2 : Int32} {r : Int32} {hF : AH} (hf : f_C_call h0 o p1 p2 = some (r, hF)) : AM l E 6 mi_C_call [va_rf (some o), .int p1, .int p2] h0 (some (.int r)) hF :=
  am_of2 [(va_rf (some o), false), (.int p1, false), (.int p2, false)] 1 ⟨cat_rf _, rfl, rfl, trivial⟩ rfl rfl (v_C_call (Nat.le_refl _) (Nat.le_refl _) (fun pc L hd => ax_iret rfl hd rfl) hf)
theorem v_Lo_addSight {l : Launch} {E : EN} {R : Room} {B : (Nat × Nat) × (Nat × Nat)} {Qf : QF} {h0 : AH} {o : Nat} {p1 : Int32} {p2 : Int32} {hF : AH} (hR1 : 4 ≤ R.frames) (hR2 : 256 ≤ R.locals) (Hr : ∀ (pc : Nat) (L : List (Option Value)), decode mi_Lo_addSight.2.1 pc = .ok (.return_, 1) → AW l E mi_Lo_addSight R B Qf pc L [] hF) (hf : f_Lo_addSight h0 o p1 p2 = some hF) : AW l E mi_Lo_addSight R B Qf 0 [some (va_rf (some o)), some (.int p1), some (.int p2)] [] h0 := by
  unfold f_Lo_addSight at hf
  refine ax_aload_n (i := 0) (some o) dLo_addSight_0 rfl rfl ?_
  replace hf := bd2_s hf
  obtain ⟨r1, h2, e_r1, hf⟩ := hf
  obtain ⟨k_e_r1, e_r1⟩ := cv_s e_r1
  refine ax_callV (As := []) (rest := []) (c_Lo_addEvent e_r1) ml_891 cm_Lo_addEvent rfl k_e_r1 (Nat.le_trans (Nat.le_of_ble_eq_true rfl) hR1) (Nat.le_trans (Nat.le_of_ble_eq_true rfl) hR2) rfl rfl (Nat.le_of_ble_eq_true rfl) dLo_addSight_1 ?_
  refine ax_iload_n (i := 1) dLo_addSight_4 rfl rfl ?_
  refine ax_iload_n (i := 2) dLo_addSight_5 rfl rfl ?_
  replace hf := bd1_s hf
  obtain ⟨a3, e_d, hf⟩ := hf
  subst e_d
  replace hf := bd1_s hf
  obtain ⟨h4, e_h4, hf⟩ := hf
  obtain ⟨k_e_h4, e_h4⟩ := cv_s e_h4
  refine ax_callV (As := [.int p1, .int p2]) (rest := []) (c_Wo_keep e_h4) ml_934 cm_Wo_keep rfl k_e_h4 (Nat.le_trans (Nat.le_of_ble_eq_true rfl) hR1) (Nat.le_trans (Nat.le_of_ble_eq_true rfl) hR2) rfl rfl (Nat.le_of_ble_eq_true rfl) dLo_addSight_6 ?_
  cases hf
  exact Hr _ _ dLo_addSight_9
theorem c_Lo_addSight {l : Launch} {E : EN} {h0 : AH} {o : Nat} {p1 : Int32} {p2 : Int32} {hF : AH} (hf : f_Lo_addSight h0 o p1 p2 = some hF) : AM l E 4 mi_Lo_addSight [va_rf (some o), .int p1, .int p2] h0 none hF :=
  am_of2 [(va_rf (some o), false), (.int p1, false), (.int p2, false)] 0 ⟨cat_rf _, rfl, rfl, trivial⟩ rfl rfl (v_Lo_addSight (Nat.le_refl _) (Nat.le_refl _) (fun pc L hd => ax_vret rfl hd rfl) hf)
theorem v_C_see {l : Launch} {E : EN} {R : Room} {B : (Nat × Nat) × (Nat × Nat)} {Qf : QF} {h0 : AH} {o : Nat} {p1 : Int32} {p2 : Int32} {r : Int32} {hF : AH} (hR1 : 5 ≤ R.frames) (hR2 : 320 ≤ R.locals) (Hr : ∀ (pc : Nat) (L : List (Option Value)), decode mi_C_see.2.1 pc = .ok (.ireturn, 1) → AW l E mi_C_see R B Qf pc L [.int r] hF) (hf : f_C_see h0 o p1 p2 = some (r, hF)) : AW l E mi_C_see R B Qf 0 [some (va_rf (some o)), some (.int p1), some (.int p2)] [] h0 := by
  unfold f_C_see at hf
  refine ax_iload_n (i := 1) dC_see_0 rfl rfl ?_
  replace hf := bd1_s hf
  obtain ⟨x1, e_x1, hf⟩ := hf
  refine ax_callS (As := [.int p1]) (rest := []) (c_C_isFact e_x1) ml_729 cm_C_isFact (Nat.le_trans (Nat.le_of_ble_eq_true rfl) hR1) (Nat.le_trans (Nat.le_of_ble_eq_true rfl) hR2) rfl rfl (Nat.le_of_ble_eq_true rfl) dC_see_1 ?_
  replace hf := ite_c hf
  rcases hf with ⟨hc, hf⟩ | ⟨hc, hf⟩
  · refine ax_if_neF 10 dC_see_4 (by decide) hc ?_
    refine ax_bipush (-101 : Int32) dC_see_7 k8_m101 ?_
    cases hf
    exact Hr _ _ dC_see_9
  · refine ax_if_neT 10 dC_see_4 (by decide) hc ?_
    refine ax_aload_n (i := 0) (some o) dC_see_10 rfl rfl ?_
    replace hf := bd1_s hf
    obtain ⟨r2, e_r2, hf⟩ := hf
    refine ax_getR fl_331 rfl dC_see_11 e_r2 ?_
    replace hf := bd1_s hf
    obtain ⟨a3, e_d, hf⟩ := hf
    subst e_d
    replace hf := bd1_s hf
    obtain ⟨x4, e_x4, hf⟩ := hf
    refine ax_getI fl_301 rfl dC_see_14 e_x4 ?_
    refine ax_bipush (30 : Int32) dC_see_17 k8_30 ?_
    replace hf := ite_c hf
    rcases hf with ⟨hc, hf⟩ | ⟨hc, hf⟩
    · refine ax_icmp_ltT 25 dC_see_19 (by decide) hc ?_
      refine ax_aload_n (i := 0) (some o) dC_see_25 rfl rfl ?_
      replace hf := bd1_s hf
      obtain ⟨r5, e_r5, hf⟩ := hf
      refine ax_getR fl_331 rfl dC_see_26 e_r5 ?_
      refine ax_iload_n (i := 1) dC_see_29 rfl rfl ?_
      refine ax_iload_n (i := 2) dC_see_30 rfl rfl ?_
      replace hf := bd1_s hf
      obtain ⟨a6, e_d, hf⟩ := hf
      subst e_d
      replace hf := bd1_s hf
      obtain ⟨h7, e_h7, hf⟩ := hf
      obtain ⟨k_e_h7, e_h7⟩ := cv_s e_h7
      refine ax_callV (As := [.int p1, .int p2]) (rest := []) (c_Lo_addSight e_h7) ml_930 cm_Lo_addSight rfl k_e_h7 (Nat.le_trans (Nat.le_of_ble_eq_true rfl) hR1) (Nat.le_trans (Nat.le_of_ble_eq_true rfl) hR2) rfl rfl (Nat.le_of_ble_eq_true rfl) dC_see_31 ?_
      refine ax_aload_n (i := 0) (some o) dC_see_34 rfl rfl ?_
      replace hf := bd1_s hf
      obtain ⟨r8, e_r8, hf⟩ := hf
      refine ax_getR fl_331 rfl dC_see_35 e_r8 ?_
      replace hf := bd1_s hf
      obtain ⟨a9, e_d, hf⟩ := hf
      subst e_d
      replace hf := bd1_s hf
      obtain ⟨x10, e_x10, hf⟩ := hf
      refine ax_getI fl_301 rfl dC_see_38 e_x10 ?_
      cases hf
      exact Hr _ _ dC_see_41
    · refine ax_icmp_ltF 25 dC_see_19 (by decide) hc ?_
      refine ax_bipush (-104 : Int32) dC_see_22 k8_m104 ?_
      cases hf
      exact Hr _ _ dC_see_24
theorem c_C_see {l : Launch} {E : EN} {h0 : AH} {o : Nat} {p1 : Int32} {p2 : Int32} {r : Int32} {hF : AH} (hf : f_C_see h0 o p1 p2 = some (r, hF)) : AM l E 5 mi_C_see [va_rf (some o), .int p1, .int p2] h0 (some (.int r)) hF :=
  am_of2 [(va_rf (some o), false), (.int p1, false), (.int p2, false)] 0 ⟨cat_rf _, rfl, rfl, trivial⟩ rfl rfl (v_C_see (Nat.le_refl _) (Nat.le_refl _) (fun pc L hd => ax_iret rfl hd rfl) hf)
theorem v_C_strike {l : Launch} {E : EN} {R : Room} {B : (Nat × Nat) × (Nat × Nat)} {Qf : QF} {h0 : AH} {o : Nat} {r : Int32} {hF : AH} (hR1 : 1 ≤ R.frames) (hR2 : 64 ≤ R.locals) (Hr : ∀ (pc : Nat) (L : List (Option Value)), decode mi_C_strike.2.1 pc = .ok (.ireturn, 1) → AW l E mi_C_strike R B Qf pc L [.int r] hF) (hf : f_C_strike h0 o = some (r, hF)) : AW l E mi_C_strike R B Qf 0 [some (va_rf (some o))] [] h0 := by
  unfold f_C_strike at hf
  refine ax_aload_n (i := 0) (some o) dC_strike_0 rfl rfl ?_
  replace hf := bd1_s hf
  obtain ⟨r1, e_r1, hf⟩ := hf
  refine ax_getR fl_331 rfl dC_strike_1 e_r1 ?_
  replace hf := bd1_s hf
  obtain ⟨a2, e_d, hf⟩ := hf
  subst e_d
  replace hf := bd1_s hf
  obtain ⟨x3, e_x3, hf⟩ := hf
  refine ax_getI fl_301 rfl dC_strike_4 e_x3 ?_
  replace hf := ite_c hf
  rcases hf with ⟨hc, hf⟩ | ⟨hc, hf⟩
  · refine ax_if_neF 13 dC_strike_7 (by decide) hc ?_
    refine ax_bipush (-103 : Int32) dC_strike_10 k8_m103 ?_
    cases hf
    exact Hr _ _ dC_strike_12
  · refine ax_if_neT 13 dC_strike_7 (by decide) hc ?_
    refine ax_aload_n (i := 0) (some o) dC_strike_13 rfl rfl ?_
    replace hf := bd1_s hf
    obtain ⟨r4, e_r4, hf⟩ := hf
    refine ax_getR fl_331 rfl dC_strike_14 e_r4 ?_
    refine ax_dup dC_strike_17 (cat_rf _) ?_
    replace hf := bd1_s hf
    obtain ⟨a5, e_d, hf⟩ := hf
    subst e_d
    replace hf := bd1_s hf
    obtain ⟨x6, e_x6, hf⟩ := hf
    refine ax_getI fl_301 rfl dC_strike_18 e_x6 ?_
    refine ax_iconst (1 : Int32) dC_strike_21 k32_1 ?_
    refine ax_isub dC_strike_22 ?_
    replace hf := bd1_s hf
    obtain ⟨h7, e_h7, hf⟩ := hf
    refine ax_putI fw_301 rfl rfl dC_strike_23 e_h7 ?_
    refine ax_aload_n (i := 0) (some o) dC_strike_26 rfl rfl ?_
    replace hf := bd1_s hf
    obtain ⟨r8, e_r8, hf⟩ := hf
    refine ax_getR fl_331 rfl dC_strike_27 e_r8 ?_
    replace hf := bd1_s hf
    obtain ⟨a9, e_d, hf⟩ := hf
    subst e_d
    replace hf := bd1_s hf
    obtain ⟨x10, e_x10, hf⟩ := hf
    refine ax_getI fl_301 rfl dC_strike_30 e_x10 ?_
    cases hf
    exact Hr _ _ dC_strike_33
theorem c_C_strike {l : Launch} {E : EN} {h0 : AH} {o : Nat} {r : Int32} {hF : AH} (hf : f_C_strike h0 o = some (r, hF)) : AM l E 1 mi_C_strike [va_rf (some o)] h0 (some (.int r)) hF :=
  am_of2 [(va_rf (some o), false)] 0 ⟨cat_rf _, trivial⟩ rfl rfl (v_C_strike (Nat.le_refl _) (Nat.le_refl _) (fun pc L hd => ax_iret rfl hd rfl) hf)
