theorem v_C_join {l : Launch} {E : EN} {R : Room} {B : (Nat × Nat) × (Nat × Nat)} {Qf : QF} {h0 : AH} {o : Nat} {p1 : Int32} {p2 : Int32} {p3 : Int32} {r : Int32} {hF : AH} (hR1 : 4 ≤ R.frames) (hR2 : 256 ≤ R.locals) (Hr : ∀ (pc : Nat) (L : List (Option Value)), decode mi_C_join.2.1 pc = .ok (.ireturn, 1) → AW l E mi_C_join R B Qf pc L [.int r] hF) (hf : f_C_join h0 o p1 p2 p3 = some (r, hF)) : AW l E mi_C_join R B Qf 0 [some (va_rf (some o)), some (.int p1), some (.int p2), some (.int p3), none, none] [] h0 := by
  unfold f_C_join at hf
  refine ax_aload_n (i := 0) (some o) dC_join_0 rfl rfl ?_
  refine ax_iload_n (i := 1) dC_join_1 rfl rfl ?_
  replace hf := bd1_s hf
  obtain ⟨r1, e_r1, hf⟩ := hf
  obtain ⟨k_e_r1, e_r1⟩ := cv_s e_r1
  refine ax_callV (As := [.int p1]) (rest := []) (c_C_talkNumbered e_r1) ml_499 cm_C_talkNumbered rfl k_e_r1 (Nat.le_trans (Nat.le_of_ble_eq_true rfl) hR1) (Nat.le_trans (Nat.le_of_ble_eq_true rfl) hR2) rfl rfl (Nat.le_of_ble_eq_true rfl) dC_join_2 ?_
  refine ax_astore (i := 4) (r := r1) [some (va_rf (some o)), some (.int p1), some (.int p2), some (.int p3), some (va_rf r1), none] dC_join_5 (Nat.le_of_ble_eq_true rfl) (Or.inr (c1i rfl)) rfl ?_
  refine ax_aload_n (i := 0) (some o) dC_join_7 rfl rfl ?_
  refine ax_iload_n (i := 2) dC_join_8 rfl rfl ?_
  replace hf := bd1_s hf
  obtain ⟨r2, e_r2, hf⟩ := hf
  obtain ⟨k_e_r2, e_r2⟩ := cv_s e_r2
  refine ax_callV (As := [.int p2]) (rest := []) (c_C_talkNumbered e_r2) ml_499 cm_C_talkNumbered rfl k_e_r2 (Nat.le_trans (Nat.le_of_ble_eq_true rfl) hR1) (Nat.le_trans (Nat.le_of_ble_eq_true rfl) hR2) rfl rfl (Nat.le_of_ble_eq_true rfl) dC_join_9 ?_
  refine ax_astore (i := 5) (r := r2) [some (va_rf (some o)), some (.int p1), some (.int p2), some (.int p3), some (va_rf r1), some (va_rf r2)] dC_join_12 (Nat.le_of_ble_eq_true rfl) (Or.inr (c1r rfl)) rfl ?_
  refine ax_aload (i := 4) r1 dC_join_14 rfl ?_
  replace hf := onl_s hf
  rcases hf with ⟨e_d, hf⟩ | ⟨a3, e_d, hf⟩
  · subst e_d
    refine ax_ifnullT 24 dC_join_16 (by decide) ?_
    refine ax_bipush (-101 : Int32) dC_join_24 k8_m101 ?_
    cases hf
    exact Hr _ _ dC_join_26
  · subst e_d
    refine ax_ifnullF dC_join_16 ?_
    refine ax_aload (i := 5) r2 dC_join_19 rfl ?_
    replace hf := onl_s hf
    rcases hf with ⟨e_d, hf⟩ | ⟨a4, e_d, hf⟩
    · subst e_d
      refine ax_ifnonnullF dC_join_21 ?_
      refine ax_bipush (-101 : Int32) dC_join_24 k8_m101 ?_
      cases hf
      exact Hr _ _ dC_join_26
    · subst e_d
      refine ax_ifnonnullT 27 dC_join_21 (by decide) ?_
      refine ax_iload_n (i := 3) dC_join_27 rfl rfl ?_
      replace hf := ite_c hf
      rcases hf with ⟨hc, hf⟩ | ⟨hc, hf⟩
      · refine ax_if_ltT 36 dC_join_28 (by decide) hc ?_
        refine ax_bipush (-102 : Int32) dC_join_36 k8_m102 ?_
        cases hf
        exact Hr _ _ dC_join_38
      · refine ax_if_ltF 36 dC_join_28 (by decide) hc ?_
        refine ax_iload_n (i := 3) dC_join_31 rfl rfl ?_
        refine ax_iconst (2 : Int32) dC_join_32 k32_2 ?_
        replace hf := ite_c hf
        rcases hf with ⟨hc, hf⟩ | ⟨hc, hf⟩
        · refine ax_icmp_leF 39 dC_join_33 (by decide) hc ?_
          refine ax_bipush (-102 : Int32) dC_join_36 k8_m102 ?_
          cases hf
          exact Hr _ _ dC_join_38
        · refine ax_icmp_leT 39 dC_join_33 (by decide) hc ?_
          refine ax_iload_n (i := 3) dC_join_39 rfl rfl ?_
          replace hf := ite_c hf
          rcases hf with ⟨hc, hf⟩ | ⟨hc, hf⟩
          · refine ax_if_leF 65 dC_join_40 (by decide) hc ?_
            refine ax_aload_n (i := 0) (some o) dC_join_43 rfl rfl ?_
            replace hf := bd1_s hf
            obtain ⟨x9, e_x9, hf⟩ := hf
            refine ax_getI fl_327 rfl dC_join_44 e_x9 ?_
            refine ax_bipush (20 : Int32) dC_join_47 k8_20 ?_
            replace hf := ite_c hf
            rcases hf with ⟨hc, hf⟩ | ⟨hc, hf⟩
            · refine ax_icmp_ltT 55 dC_join_49 (by decide) hc ?_
              refine ax_aload_n (i := 0) (some o) dC_join_55 rfl rfl ?_
              refine ax_dup dC_join_56 rfl ?_
              replace hf := bd1_s hf
              obtain ⟨x10, e_x10, hf⟩ := hf
              refine ax_getI fl_327 rfl dC_join_57 e_x10 ?_
              refine ax_iconst (1 : Int32) dC_join_60 k32_1 ?_
              refine ax_iadd dC_join_61 ?_
              replace hf := bd1_s hf
              obtain ⟨h11, e_h11, hf⟩ := hf
              refine ax_putI fw_327 rfl rfl dC_join_62 e_h11 ?_
              refine ax_aload_n (i := 0) (some o) dC_join_65 rfl rfl ?_
              replace hf := bd1_s hf
              obtain ⟨r12, e_r12, hf⟩ := hf
              refine ax_getR fl_324 rfl dC_join_66 e_r12 ?_
              refine ax_aload (i := 4) (some a3) dC_join_69 rfl ?_
              refine ax_aload (i := 5) (some a4) dC_join_71 rfl ?_
              refine ax_iload_n (i := 3) dC_join_73 rfl rfl ?_
              replace hf := bd1_s hf
              obtain ⟨a13, e_d, hf⟩ := hf
              subst e_d
              replace hf := bd2_s hf
              obtain ⟨x14, h15, e_x14, hf⟩ := hf
              obtain ⟨k_e_x14, e_x14⟩ := cv_s e_x14
              refine ax_callV (As := [va_rf (some a3), va_rf (some a4), .int p3]) (rest := []) (c_Wa_through e_x14) ml_539 cm_Wa_through rfl k_e_x14 (Nat.le_trans (Nat.le_of_ble_eq_true rfl) hR1) (Nat.le_trans (Nat.le_of_ble_eq_true rfl) hR2) rfl rfl (Nat.le_of_ble_eq_true rfl) dC_join_74 ?_
              cases hf
              exact Hr _ _ dC_join_77
            · refine ax_icmp_ltF 55 dC_join_49 (by decide) hc ?_
              refine ax_bipush (-103 : Int32) dC_join_52 k8_m103 ?_
              cases hf
              exact Hr _ _ dC_join_54
          · refine ax_if_leT 65 dC_join_40 (by decide) hc ?_
            refine ax_aload_n (i := 0) (some o) dC_join_65 rfl rfl ?_
            replace hf := bd1_s hf
            obtain ⟨r5, e_r5, hf⟩ := hf
            refine ax_getR fl_324 rfl dC_join_66 e_r5 ?_
            refine ax_aload (i := 4) (some a3) dC_join_69 rfl ?_
            refine ax_aload (i := 5) (some a4) dC_join_71 rfl ?_
            refine ax_iload_n (i := 3) dC_join_73 rfl rfl ?_
            replace hf := bd1_s hf
            obtain ⟨a6, e_d, hf⟩ := hf
            subst e_d
            replace hf := bd2_s hf
            obtain ⟨x7, h8, e_x7, hf⟩ := hf
            obtain ⟨k_e_x7, e_x7⟩ := cv_s e_x7
            refine ax_callV (As := [va_rf (some a3), va_rf (some a4), .int p3]) (rest := []) (c_Wa_through e_x7) ml_539 cm_Wa_through rfl k_e_x7 (Nat.le_trans (Nat.le_of_ble_eq_true rfl) hR1) (Nat.le_trans (Nat.le_of_ble_eq_true rfl) hR2) rfl rfl (Nat.le_of_ble_eq_true rfl) dC_join_74 ?_
            cases hf
            exact Hr _ _ dC_join_77
theorem c_C_join {l : Launch} {E : EN} {h0 : AH} {o : Nat} {p1 : Int32} {p2 : Int32} {p3 : Int32} {r : Int32} {hF : AH} (hf : f_C_join h0 o p1 p2 p3 = some (r, hF)) : AM l E 4 mi_C_join [va_rf (some o), .int p1, .int p2, .int p3] h0 (some (.int r)) hF :=
  am_of2 [(va_rf (some o), false), (.int p1, false), (.int p2, false), (.int p3, false)] 2 ⟨cat_rf _, rfl, rfl, rfl, trivial⟩ rfl rfl (v_C_join (Nat.le_refl _) (Nat.le_refl _) (fun pc L hd => ax_iret rfl hd rfl) hf)
theorem v_C_walked {l : Launch} {E : EN} {R : Room} {B : (Nat × Nat) × (Nat × Nat)} {Qf : QF} {h0 : AH} {o : Nat} {r : Int32} (hR1 : 1 ≤ R.frames) (hR2 : 64 ≤ R.locals) (Hr : ∀ (pc : Nat) (L : List (Option Value)), decode mi_C_walked.2.1 pc = .ok (.ireturn, 1) → AW l E mi_C_walked R B Qf pc L [.int r] h0) (hf : f_C_walked h0 o = some r) : AW l E mi_C_walked R B Qf 0 [some (va_rf (some o))] [] h0 := by
  unfold f_C_walked at hf
  refine ax_aload_n (i := 0) (some o) dC_walked_0 rfl rfl ?_
  replace hf := bd1_s hf
  obtain ⟨r1, e_r1, hf⟩ := hf
  refine ax_getR fl_324 rfl dC_walked_1 e_r1 ?_
  replace hf := bd1_s hf
  obtain ⟨a2, e_d, hf⟩ := hf
  subst e_d
  replace hf := bd1_s hf
  obtain ⟨x3, e_x3, hf⟩ := hf
  refine ax_getI fl_120 rfl dC_walked_4 e_x3 ?_
  cases hf
  exact Hr _ _ dC_walked_7
theorem c_C_walked {l : Launch} {E : EN} {h0 : AH} {o : Nat} {r : Int32} (hf : f_C_walked h0 o = some r) : AM l E 1 mi_C_walked [va_rf (some o)] h0 (some (.int r)) h0 :=
  am_of2 [(va_rf (some o), false)] 0 ⟨cat_rf _, trivial⟩ rfl rfl (v_C_walked (Nat.le_refl _) (Nat.le_refl _) (fun pc L hd => ax_iret rfl hd rfl) hf)
theorem v_Wa_stepToFault {l : Launch} {E : EN} {R : Room} {B : (Nat × Nat) × (Nat × Nat)} {Qf : QF} {h0 : AH} {o : Nat} {p1 : Int32} {r : Int32} (hR1 : 1 ≤ R.frames) (hR2 : 64 ≤ R.locals) (Hr : ∀ (pc : Nat) (L : List (Option Value)), decode mi_Wa_stepToFault.2.1 pc = .ok (.ireturn, 1) → AW l E mi_Wa_stepToFault R B Qf pc L [.int r] h0) (hf : f_Wa_stepToFault h0 o p1 = some r) : AW l E mi_Wa_stepToFault R B Qf 0 [some (va_rf (some o)), some (.int p1)] [] h0 := by
  unfold f_Wa_stepToFault at hf
  refine ax_iload_n (i := 1) dWa_stepToFault_0 rfl rfl ?_
  replace hf := ite_c hf
  rcases hf with ⟨hc, hf⟩ | ⟨hc, hf⟩
  · refine ax_if_ltT 12 dWa_stepToFault_1 (by decide) hc ?_
    refine ax_iconst (-1 : Int32) dWa_stepToFault_12 k32_m1 ?_
    refine ax_goto 22 dWa_stepToFault_13 (by decide) ?_
    cases hf
    exact Hr _ _ dWa_stepToFault_22
  · refine ax_if_ltF 12 dWa_stepToFault_1 (by decide) hc ?_
    refine ax_iload_n (i := 1) dWa_stepToFault_4 rfl rfl ?_
    refine ax_aload_n (i := 0) (some o) dWa_stepToFault_5 rfl rfl ?_
    replace hf := bd1_s hf
    obtain ⟨x1, e_x1, hf⟩ := hf
    refine ax_getI fl_124 rfl dWa_stepToFault_6 e_x1 ?_
    replace hf := ite_c hf
    rcases hf with ⟨hc, hf⟩ | ⟨hc, hf⟩
    · refine ax_icmp_ltT 16 dWa_stepToFault_9 (by decide) hc ?_
      refine ax_aload_n (i := 0) (some o) dWa_stepToFault_16 rfl rfl ?_
      replace hf := bd1_s hf
      obtain ⟨r2, e_r2, hf⟩ := hf
      refine ax_getR fl_123 rfl dWa_stepToFault_17 e_r2 ?_
      refine ax_iload_n (i := 1) dWa_stepToFault_20 rfl rfl ?_
      replace hf := bd1_s hf
      obtain ⟨a3, e_d, hf⟩ := hf
      subst e_d
      replace hf := bd1_s hf
      obtain ⟨x4, e_x4, hf⟩ := hf
      refine ax_iald dWa_stepToFault_21 e_x4 ?_
      cases hf
      exact Hr _ _ dWa_stepToFault_22
    · refine ax_icmp_ltF 16 dWa_stepToFault_9 (by decide) hc ?_
      refine ax_iconst (-1 : Int32) dWa_stepToFault_12 k32_m1 ?_
      refine ax_goto 22 dWa_stepToFault_13 (by decide) ?_
      cases hf
      exact Hr _ _ dWa_stepToFault_22
theorem c_Wa_stepToFault {l : Launch} {E : EN} {h0 : AH} {o : Nat} {p1 : Int32} {r : Int32} (hf : f_Wa_stepToFault h0 o p1 = some r) : AM l E 1 mi_Wa_stepToFault [va_rf (some o), .int p1] h0 (some (.int r)) h0 :=
  am_of2 [(va_rf (some o), false), (.int p1, false)] 0 ⟨cat_rf _, rfl, trivial⟩ rfl rfl (v_Wa_stepToFault (Nat.le_refl _) (Nat.le_refl _) (fun pc L hd => ax_iret rfl hd rfl) hf)
theorem v_C_trace {l : Launch} {E : EN} {R : Room} {B : (Nat × Nat) × (Nat × Nat)} {Qf : QF} {h0 : AH} {o : Nat} {p1 : Int32} {r : Int32} (hR1 : 2 ≤ R.frames) (hR2 : 128 ≤ R.locals) (Hr : ∀ (pc : Nat) (L : List (Option Value)), decode mi_C_trace.2.1 pc = .ok (.ireturn, 1) → AW l E mi_C_trace R B Qf pc L [.int r] h0) (hf : f_C_trace h0 o p1 = some r) : AW l E mi_C_trace R B Qf 0 [some (va_rf (some o)), some (.int p1)] [] h0 := by
  unfold f_C_trace at hf
  refine ax_aload_n (i := 0) (some o) dC_trace_0 rfl rfl ?_
  replace hf := bd1_s hf
  obtain ⟨r1, e_r1, hf⟩ := hf
  refine ax_getR fl_324 rfl dC_trace_1 e_r1 ?_
  refine ax_iload_n (i := 1) dC_trace_4 rfl rfl ?_
  replace hf := bd1_s hf
  obtain ⟨a2, e_d, hf⟩ := hf
  subst e_d
  replace hf := bd1_s hf
  obtain ⟨x3, e_x3, hf⟩ := hf
  obtain ⟨k_e_x3, e_x3⟩ := cv_s e_x3
  refine ax_callV (As := [.int p1]) (rest := []) (c_Wa_stepToFault e_x3) ml_585 cm_Wa_stepToFault rfl k_e_x3 (Nat.le_trans (Nat.le_of_ble_eq_true rfl) hR1) (Nat.le_trans (Nat.le_of_ble_eq_true rfl) hR2) rfl rfl (Nat.le_of_ble_eq_true rfl) dC_trace_5 ?_
  cases hf
  exact Hr _ _ dC_trace_8
theorem c_C_trace {l : Launch} {E : EN} {h0 : AH} {o : Nat} {p1 : Int32} {r : Int32} (hf : f_C_trace h0 o p1 = some r) : AM l E 2 mi_C_trace [va_rf (some o), .int p1] h0 (some (.int r)) h0 :=
  am_of2 [(va_rf (some o), false), (.int p1, false)] 0 ⟨cat_rf _, rfl, trivial⟩ rfl rfl (v_C_trace (Nat.le_refl _) (Nat.le_refl _) (fun pc L hd => ax_iret rfl hd rfl) hf)
theorem v_Fi_holds {l : Launch} {E : EN} {R : Room} {B : (Nat × Nat) × (Nat × Nat)} {Qf : QF} {h0 : AH} {o : Nat} {p1 : Int32} {p2 : Int32} {r : Int32} (hR1 : 2 ≤ R.frames) (hR2 : 128 ≤ R.locals) (Hr : (r = 0 ∨ r = 1) → ∀ (pc : Nat) (L : List (Option Value)), decode mi_Fi_holds.2.1 pc = .ok (.ireturn, 1) → AW l E mi_Fi_holds R B Qf pc L [.int r] h0) (hf : f_Fi_holds h0 o p1 p2 = some r) : AW l E mi_Fi_holds R B Qf 0 [some (va_rf (some o)), some (.int p1), some (.int p2)] [] h0 := by
  unfold f_Fi_holds at hf
  refine ax_aload_n (i := 0) (some o) dFi_holds_0 rfl rfl ?_
  replace hf := bd1_s hf
  obtain ⟨r1, e_r1, hf⟩ := hf
  refine ax_getR fl_157 rfl dFi_holds_1 e_r1 ?_
  refine ax_iload_n (i := 1) dFi_holds_4 rfl rfl ?_
  replace hf := bd1_s hf
  obtain ⟨a2, e_d, hf⟩ := hf
  subst e_d
  replace hf := bd1_s hf
  obtain ⟨x3, e_x3, hf⟩ := hf
  refine ax_iald dFi_holds_5 e_x3 ?_
  refine ax_iload_n (i := 2) dFi_holds_6 rfl rfl ?_
  replace hf := bd1_s hf
  obtain ⟨x4, e_x4, hf⟩ := hf
  refine ax_callS (As := [.int x3, .int p2]) (rest := []) (c_C_hasBit e_x4) ml_606 cm_C_hasBit (Nat.le_trans (Nat.le_of_ble_eq_true rfl) hR1) (Nat.le_trans (Nat.le_of_ble_eq_true rfl) hR2) rfl rfl (Nat.le_of_ble_eq_true rfl) dFi_holds_7 ?_
  replace hf := ite_s hf
  obtain ⟨e_z, hf⟩ := hf
  cases hf
  exact Hr e_z _ _ dFi_holds_10
theorem c_Fi_holds {l : Launch} {E : EN} {h0 : AH} {o : Nat} {p1 : Int32} {p2 : Int32} {r : Int32} (hf : f_Fi_holds h0 o p1 p2 = some r) : AM l E 2 mi_Fi_holds [va_rf (some o), .int p1, .int p2] h0 (some (.int r)) h0 :=
  am_of2 [(va_rf (some o), false), (.int p1, false), (.int p2, false)] 0 ⟨cat_rf _, rfl, rfl, trivial⟩ rfl rfl (v_Fi_holds (Nat.le_refl _) (Nat.le_refl _) (fun hz pc L hd => ax_zret rfl hz hd rfl) hf)
theorem v_Fi_fitsNow {l : Launch} {E : EN} {R : Room} {B : (Nat × Nat) × (Nat × Nat)} {Qf : QF} {h0 : AH} {o : Nat} {p1 : Int32} {p2 : Int32} {r : Int32} (hR1 : 2 ≤ R.frames) (hR2 : 128 ≤ R.locals) (Hr : (r = 0 ∨ r = 1) → ∀ (pc : Nat) (L : List (Option Value)), decode mi_Fi_fitsNow.2.1 pc = .ok (.ireturn, 1) → AW l E mi_Fi_fitsNow R B Qf pc L [.int r] h0) (hf : f_Fi_fitsNow h0 o p1 p2 = some r) : AW l E mi_Fi_fitsNow R B Qf 0 [some (va_rf (some o)), some (.int p1), some (.int p2)] [] h0 := by
  unfold f_Fi_fitsNow at hf
  refine ax_aload_n (i := 0) (some o) dFi_fitsNow_0 rfl rfl ?_
  replace hf := bd1_s hf
  obtain ⟨r1, e_r1, hf⟩ := hf
  refine ax_getR fl_159 rfl dFi_fitsNow_1 e_r1 ?_
  replace hf := bd1_s hf
  obtain ⟨a2, e_d, hf⟩ := hf
  subst e_d
  replace hf := bd1_s hf
  obtain ⟨r3, e_r3, hf⟩ := hf
  refine ax_getR fl_478 rfl dFi_fitsNow_4 e_r3 ?_
  refine ax_iload_n (i := 2) dFi_fitsNow_7 rfl rfl ?_
  replace hf := bd1_s hf
  obtain ⟨a4, e_d, hf⟩ := hf
  subst e_d
  replace hf := bd1_s hf
  obtain ⟨x5, e_x5, hf⟩ := hf
  refine ax_iald dFi_fitsNow_8 e_x5 ?_
  refine ax_aload_n (i := 0) (some o) dFi_fitsNow_9 rfl rfl ?_
  replace hf := bd1_s hf
  obtain ⟨r6, e_r6, hf⟩ := hf
  refine ax_getR fl_158 rfl dFi_fitsNow_10 e_r6 ?_
  replace hf := bd1_s hf
  obtain ⟨a7, e_d, hf⟩ := hf
  subst e_d
  replace hf := bd1_s hf
  obtain ⟨r8, e_r8, hf⟩ := hf
  refine ax_getR fl_478 rfl dFi_fitsNow_13 e_r8 ?_
  refine ax_iload_n (i := 1) dFi_fitsNow_16 rfl rfl ?_
  replace hf := bd1_s hf
  obtain ⟨a9, e_d, hf⟩ := hf
  subst e_d
  replace hf := bd1_s hf
  obtain ⟨x10, e_x10, hf⟩ := hf
  refine ax_iald dFi_fitsNow_17 e_x10 ?_
  refine ax_iconst (-1 : Int32) dFi_fitsNow_18 k32_m1 ?_
  refine ax_ixor dFi_fitsNow_19 ?_
  refine ax_iand dFi_fitsNow_20 ?_
  replace hf := ite_c hf
  rcases hf with ⟨hc, hf⟩ | ⟨hc, hf⟩
  · refine ax_if_neF 48 dFi_fitsNow_21 (by decide) hc ?_
    refine ax_aload_n (i := 0) (some o) dFi_fitsNow_24 rfl rfl ?_
    replace hf := bd1_s hf
    obtain ⟨r11, e_r11, hf⟩ := hf
    refine ax_getR fl_158 rfl dFi_fitsNow_25 e_r11 ?_
    replace hf := bd1_s hf
    obtain ⟨a12, e_d, hf⟩ := hf
    subst e_d
    replace hf := bd1_s hf
    obtain ⟨r13, e_r13, hf⟩ := hf
    refine ax_getR fl_482 rfl dFi_fitsNow_28 e_r13 ?_
    refine ax_iload_n (i := 1) dFi_fitsNow_31 rfl rfl ?_
    replace hf := bd1_s hf
    obtain ⟨a14, e_d, hf⟩ := hf
    subst e_d
    replace hf := bd1_s hf
    obtain ⟨x15, e_x15, hf⟩ := hf
    refine ax_iald dFi_fitsNow_32 e_x15 ?_
    refine ax_aload_n (i := 0) (some o) dFi_fitsNow_33 rfl rfl ?_
    replace hf := bd1_s hf
    obtain ⟨r16, e_r16, hf⟩ := hf
    refine ax_getR fl_159 rfl dFi_fitsNow_34 e_r16 ?_
    replace hf := bd1_s hf
    obtain ⟨a17, e_d, hf⟩ := hf
    subst e_d
    replace hf := bd1_s hf
    obtain ⟨r18, e_r18, hf⟩ := hf
    refine ax_getR fl_482 rfl dFi_fitsNow_37 e_r18 ?_
    refine ax_iload_n (i := 2) dFi_fitsNow_40 rfl rfl ?_
    replace hf := bd1_s hf
    obtain ⟨a19, e_d, hf⟩ := hf
    subst e_d
    replace hf := bd1_s hf
    obtain ⟨x20, e_x20, hf⟩ := hf
    refine ax_iald dFi_fitsNow_41 e_x20 ?_
    refine ax_iconst (-1 : Int32) dFi_fitsNow_42 k32_m1 ?_
    refine ax_ixor dFi_fitsNow_43 ?_
    refine ax_iand dFi_fitsNow_44 ?_
    replace hf := ite_c hf
    rcases hf with ⟨hc, hf⟩ | ⟨hc, hf⟩
    · refine ax_if_eqT 50 dFi_fitsNow_45 (by decide) hc ?_
      refine ax_aload_n (i := 0) (some o) dFi_fitsNow_50 rfl rfl ?_
      replace hf := bd1_s hf
      obtain ⟨r21, e_r21, hf⟩ := hf
      refine ax_getR fl_158 rfl dFi_fitsNow_51 e_r21 ?_
      replace hf := bd1_s hf
      obtain ⟨a22, e_d, hf⟩ := hf
      subst e_d
      replace hf := bd1_s hf
      obtain ⟨r23, e_r23, hf⟩ := hf
      refine ax_getR fl_482 rfl dFi_fitsNow_54 e_r23 ?_
      refine ax_iload_n (i := 1) dFi_fitsNow_57 rfl rfl ?_
      replace hf := bd1_s hf
      obtain ⟨a24, e_d, hf⟩ := hf
      subst e_d
      replace hf := bd1_s hf
      obtain ⟨x25, e_x25, hf⟩ := hf
      refine ax_iald dFi_fitsNow_58 e_x25 ?_
      replace hf := ite_c hf
      rcases hf with ⟨hc, hf⟩ | ⟨hc, hf⟩
      · refine ax_if_neF 76 dFi_fitsNow_59 (by decide) hc ?_
        refine ax_aload_n (i := 0) (some o) dFi_fitsNow_62 rfl rfl ?_
        replace hf := bd1_s hf
        obtain ⟨r32, e_r32, hf⟩ := hf
        refine ax_getR fl_159 rfl dFi_fitsNow_63 e_r32 ?_
        replace hf := bd1_s hf
        obtain ⟨a33, e_d, hf⟩ := hf
        subst e_d
        replace hf := bd1_s hf
        obtain ⟨r34, e_r34, hf⟩ := hf
        refine ax_getR fl_482 rfl dFi_fitsNow_66 e_r34 ?_
        refine ax_iload_n (i := 2) dFi_fitsNow_69 rfl rfl ?_
        replace hf := bd1_s hf
        obtain ⟨a35, e_d, hf⟩ := hf
        subst e_d
        replace hf := bd1_s hf
        obtain ⟨x36, e_x36, hf⟩ := hf
        refine ax_iald dFi_fitsNow_70 e_x36 ?_
        replace hf := ite_c hf
        rcases hf with ⟨hc, hf⟩ | ⟨hc, hf⟩
        · refine ax_if_eqT 76 dFi_fitsNow_71 (by decide) hc ?_
          refine ax_aload_n (i := 0) (some o) dFi_fitsNow_76 rfl rfl ?_
          replace hf := bd1_s hf
          obtain ⟨r37, e_r37, hf⟩ := hf
          refine ax_getR fl_158 rfl dFi_fitsNow_77 e_r37 ?_
          refine ax_iload_n (i := 1) dFi_fitsNow_80 rfl rfl ?_
          replace hf := bd1_s hf
          obtain ⟨a38, e_d, hf⟩ := hf
          subst e_d
          replace hf := bd1_s hf
          obtain ⟨x39, e_x39, hf⟩ := hf
          obtain ⟨k_e_x39, e_x39⟩ := cv_s e_x39
          refine ax_callV (As := [.int p1]) (rest := []) (c_Ta_mayEnd e_x39) ml_611 cm_Ta_mayEnd rfl k_e_x39 (Nat.le_trans (Nat.le_of_ble_eq_true rfl) hR1) (Nat.le_trans (Nat.le_of_ble_eq_true rfl) hR2) rfl rfl (Nat.le_of_ble_eq_true rfl) dFi_fitsNow_81 ?_
          refine ax_aload_n (i := 0) (some o) dFi_fitsNow_84 rfl rfl ?_
          replace hf := bd1_s hf
          obtain ⟨r40, e_r40, hf⟩ := hf
          refine ax_getR fl_159 rfl dFi_fitsNow_85 e_r40 ?_
          refine ax_iload_n (i := 2) dFi_fitsNow_88 rfl rfl ?_
          replace hf := bd1_s hf
          obtain ⟨a41, e_d, hf⟩ := hf
          subst e_d
          replace hf := bd1_s hf
          obtain ⟨x42, e_x42, hf⟩ := hf
          obtain ⟨k_e_x42, e_x42⟩ := cv_s e_x42
          refine ax_callV (As := [.int p2]) (rest := [.int x39]) (c_Ta_mayEnd e_x42) ml_611 cm_Ta_mayEnd rfl k_e_x42 (Nat.le_trans (Nat.le_of_ble_eq_true rfl) hR1) (Nat.le_trans (Nat.le_of_ble_eq_true rfl) hR2) rfl rfl (Nat.le_of_ble_eq_true rfl) dFi_fitsNow_89 ?_
          replace hf := ite_c hf
          rcases hf with ⟨hc, hf⟩ | ⟨hc, hf⟩
          · refine ax_icmp_neF 99 dFi_fitsNow_92 (by decide) hc ?_
            refine ax_iconst (1 : Int32) dFi_fitsNow_95 k32_1 ?_
            refine ax_goto 100 dFi_fitsNow_96 (by decide) ?_
            cases hf
            exact Hr (Or.inr rfl) _ _ dFi_fitsNow_100
          · refine ax_icmp_neT 99 dFi_fitsNow_92 (by decide) hc ?_
            refine ax_iconst (0 : Int32) dFi_fitsNow_99 k32_0 ?_
            cases hf
            exact Hr (Or.inl rfl) _ _ dFi_fitsNow_100
        · refine ax_if_eqF 76 dFi_fitsNow_71 (by decide) hc ?_
          refine ax_iconst (0 : Int32) dFi_fitsNow_74 k32_0 ?_
          cases hf
          exact Hr (Or.inl rfl) _ _ dFi_fitsNow_75
      · refine ax_if_neT 76 dFi_fitsNow_59 (by decide) hc ?_
        refine ax_aload_n (i := 0) (some o) dFi_fitsNow_76 rfl rfl ?_
        replace hf := bd1_s hf
        obtain ⟨r26, e_r26, hf⟩ := hf
        refine ax_getR fl_158 rfl dFi_fitsNow_77 e_r26 ?_
        refine ax_iload_n (i := 1) dFi_fitsNow_80 rfl rfl ?_
        replace hf := bd1_s hf
        obtain ⟨a27, e_d, hf⟩ := hf
        subst e_d
        replace hf := bd1_s hf
        obtain ⟨x28, e_x28, hf⟩ := hf
        obtain ⟨k_e_x28, e_x28⟩ := cv_s e_x28
        refine ax_callV (As := [.int p1]) (rest := []) (c_Ta_mayEnd e_x28) ml_611 cm_Ta_mayEnd rfl k_e_x28 (Nat.le_trans (Nat.le_of_ble_eq_true rfl) hR1) (Nat.le_trans (Nat.le_of_ble_eq_true rfl) hR2) rfl rfl (Nat.le_of_ble_eq_true rfl) dFi_fitsNow_81 ?_
        refine ax_aload_n (i := 0) (some o) dFi_fitsNow_84 rfl rfl ?_
        replace hf := bd1_s hf
        obtain ⟨r29, e_r29, hf⟩ := hf
        refine ax_getR fl_159 rfl dFi_fitsNow_85 e_r29 ?_
        refine ax_iload_n (i := 2) dFi_fitsNow_88 rfl rfl ?_
        replace hf := bd1_s hf
        obtain ⟨a30, e_d, hf⟩ := hf
        subst e_d
        replace hf := bd1_s hf
        obtain ⟨x31, e_x31, hf⟩ := hf
        obtain ⟨k_e_x31, e_x31⟩ := cv_s e_x31
        refine ax_callV (As := [.int p2]) (rest := [.int x28]) (c_Ta_mayEnd e_x31) ml_611 cm_Ta_mayEnd rfl k_e_x31 (Nat.le_trans (Nat.le_of_ble_eq_true rfl) hR1) (Nat.le_trans (Nat.le_of_ble_eq_true rfl) hR2) rfl rfl (Nat.le_of_ble_eq_true rfl) dFi_fitsNow_89 ?_
        replace hf := ite_c hf
        rcases hf with ⟨hc, hf⟩ | ⟨hc, hf⟩
        · refine ax_icmp_neF 99 dFi_fitsNow_92 (by decide) hc ?_
          refine ax_iconst (1 : Int32) dFi_fitsNow_95 k32_1 ?_
          refine ax_goto 100 dFi_fitsNow_96 (by decide) ?_
          cases hf
          exact Hr (Or.inr rfl) _ _ dFi_fitsNow_100
        · refine ax_icmp_neT 99 dFi_fitsNow_92 (by decide) hc ?_
          refine ax_iconst (0 : Int32) dFi_fitsNow_99 k32_0 ?_
          cases hf
          exact Hr (Or.inl rfl) _ _ dFi_fitsNow_100
    · refine ax_if_eqF 50 dFi_fitsNow_45 (by decide) hc ?_
      refine ax_iconst (0 : Int32) dFi_fitsNow_48 k32_0 ?_
      cases hf
      exact Hr (Or.inl rfl) _ _ dFi_fitsNow_49
  · refine ax_if_neT 48 dFi_fitsNow_21 (by decide) hc ?_
    refine ax_iconst (0 : Int32) dFi_fitsNow_48 k32_0 ?_
    cases hf
    exact Hr (Or.inl rfl) _ _ dFi_fitsNow_49
theorem c_Fi_fitsNow {l : Launch} {E : EN} {h0 : AH} {o : Nat} {p1 : Int32} {p2 : Int32} {r : Int32} (hf : f_Fi_fitsNow h0 o p1 p2 = some r) : AM l E 2 mi_Fi_fitsNow [va_rf (some o), .int p1, .int p2] h0 (some (.int r)) h0 :=
  am_of2 [(va_rf (some o), false), (.int p1, false), (.int p2, false)] 0 ⟨cat_rf _, rfl, rfl, trivial⟩ rfl rfl (v_Fi_fitsNow (Nat.le_refl _) (Nat.le_refl _) (fun hz pc L hd => ax_zret rfl hz hd rfl) hf)
theorem w_Fi_fitsLater_L2 {l : Launch} {E : EN} {R : Room} {B : (Nat × Nat) × (Nat × Nat)} {Qf : QF} {h0 : AH} {r : Int32} (hR1 : 3 ≤ R.frames) (hR2 : 192 ≤ R.locals) (Hr : (r = 0 ∨ r = 1) → ∀ (pc : Nat) (L : List (Option Value)), decode mi_Fi_fitsLater.2.1 pc = .ok (.ireturn, 1) → AW l E mi_Fi_fitsLater R B Qf pc L [.int r] h0) {y0 : Nat} {y1 : Int32} {y2 : Int32} : ∀ (n : Nat) (z3 : Int32), f_Fi_fitsLater_L2 h0 y0 y1 y2 n z3 = some r → AW l E mi_Fi_fitsLater R B Qf 2 [some (va_rf (some y0)), some (.int y1), some (.int y2), some (.int z3)] [] h0 := by
  intro n
  induction n with
  | zero => intro z3 hf; cases hf
  | succ n ih =>
    intro z3 hf
    rw [f_Fi_fitsLater_L2] at hf
    refine ax_iload_n (i := 3) dFi_fitsLater_2 rfl rfl ?_
    refine ax_bipush (8 : Int32) dFi_fitsLater_3 k8_8 ?_
    replace hf := ite_c hf
    rcases hf with ⟨hc, hf⟩ | ⟨hc, hf⟩
    · refine ax_icmp_geF 104 dFi_fitsLater_5 (by decide) hc ?_
      refine ax_aload_n (i := 0) (some y0) dFi_fitsLater_8 rfl rfl ?_
      replace hf := bd1_s hf
      obtain ⟨r1, e_r1, hf⟩ := hf
      refine ax_getR fl_159 rfl dFi_fitsLater_9 e_r1 ?_
      replace hf := bd1_s hf
      obtain ⟨a2, e_d, hf⟩ := hf
      subst e_d
      replace hf := bd1_s hf
      obtain ⟨r3, e_r3, hf⟩ := hf
      refine ax_getR fl_478 rfl dFi_fitsLater_12 e_r3 ?_
      refine ax_iload_n (i := 2) dFi_fitsLater_15 rfl rfl ?_
      replace hf := bd1_s hf
      obtain ⟨a4, e_d, hf⟩ := hf
      subst e_d
      replace hf := bd1_s hf
      obtain ⟨x5, e_x5, hf⟩ := hf
      refine ax_iald dFi_fitsLater_16 e_x5 ?_
      refine ax_iload_n (i := 3) dFi_fitsLater_17 rfl rfl ?_
      replace hf := bd1_s hf
      obtain ⟨x6, e_x6, hf⟩ := hf
      refine ax_callS (As := [.int x5, .int z3]) (rest := []) (c_C_hasBit e_x6) ml_606 cm_C_hasBit (Nat.le_trans (Nat.le_of_ble_eq_true rfl) hR1) (Nat.le_trans (Nat.le_of_ble_eq_true rfl) hR2) rfl rfl (Nat.le_of_ble_eq_true rfl) dFi_fitsLater_18 ?_
      replace hf := ite_c hf
      rcases hf with ⟨hc, hf⟩ | ⟨hc, hf⟩
      · refine ax_if_eqT 53 dFi_fitsLater_21 (by decide) hc ?_
        refine ax_aload_n (i := 0) (some y0) dFi_fitsLater_53 rfl rfl ?_
        replace hf := bd1_s hf
        obtain ⟨r7, e_r7, hf⟩ := hf
        refine ax_getR fl_158 rfl dFi_fitsLater_54 e_r7 ?_
        replace hf := bd1_s hf
        obtain ⟨a8, e_d, hf⟩ := hf
        subst e_d
        replace hf := bd1_s hf
        obtain ⟨r9, e_r9, hf⟩ := hf
        refine ax_getR fl_482 rfl dFi_fitsLater_57 e_r9 ?_
        refine ax_iload_n (i := 1) dFi_fitsLater_60 rfl rfl ?_
        replace hf := bd1_s hf
        obtain ⟨a10, e_d, hf⟩ := hf
        subst e_d
        replace hf := bd1_s hf
        obtain ⟨x11, e_x11, hf⟩ := hf
        refine ax_iald dFi_fitsLater_61 e_x11 ?_
        refine ax_iload_n (i := 3) dFi_fitsLater_62 rfl rfl ?_
        replace hf := bd1_s hf
        obtain ⟨x12, e_x12, hf⟩ := hf
        refine ax_callS (As := [.int x11, .int z3]) (rest := []) (c_C_hasBit e_x12) ml_606 cm_C_hasBit (Nat.le_trans (Nat.le_of_ble_eq_true rfl) hR1) (Nat.le_trans (Nat.le_of_ble_eq_true rfl) hR2) rfl rfl (Nat.le_of_ble_eq_true rfl) dFi_fitsLater_63 ?_
        replace hf := ite_c hf
        rcases hf with ⟨hc, hf⟩ | ⟨hc, hf⟩
        · refine ax_if_eqT 98 dFi_fitsLater_66 (by decide) hc ?_
          refine ax_iinc (i := 3) (z3 + (1 : Int32)) [some (va_rf (some y0)), some (.int y1), some (.int y2), some (.int (z3 + (1 : Int32)))] dFi_fitsLater_98 rfl (iic k32_1) (Or.inr (c1i rfl)) rfl ?_
          refine ax_goto 2 dFi_fitsLater_101 (by decide) ?_
          exact ih (z3 + (1 : Int32)) hf
        · refine ax_if_eqF 98 dFi_fitsLater_66 (by decide) hc ?_
          refine ax_aload_n (i := 0) (some y0) dFi_fitsLater_69 rfl rfl ?_
          refine ax_aload_n (i := 0) (some y0) dFi_fitsLater_70 rfl rfl ?_
          replace hf := bd1_s hf
          obtain ⟨r13, e_r13, hf⟩ := hf
          refine ax_getR fl_158 rfl dFi_fitsLater_71 e_r13 ?_
          refine ax_iload_n (i := 1) dFi_fitsLater_74 rfl rfl ?_
          refine ax_iconst (1 : Int32) dFi_fitsLater_75 k32_1 ?_
          refine ax_iload_n (i := 3) dFi_fitsLater_76 rfl rfl ?_
          replace hf := bd1_s hf
          obtain ⟨a14, e_d, hf⟩ := hf
          subst e_d
          replace hf := bd1_s hf
          obtain ⟨x15, e_x15, hf⟩ := hf
          obtain ⟨k_e_x15, e_x15⟩ := cv_s e_x15
          refine ax_callV (As := [.int y1, .int (1 : Int32), .int z3]) (rest := [va_rf (some y0)]) (c_Ta_behind e_x15) ml_616 cm_Ta_behind rfl k_e_x15 (Nat.le_trans (Nat.le_of_ble_eq_true rfl) hR1) (Nat.le_trans (Nat.le_of_ble_eq_true rfl) hR2) rfl rfl (Nat.le_of_ble_eq_true rfl) dFi_fitsLater_77 ?_
          refine ax_aload_n (i := 0) (some y0) dFi_fitsLater_80 rfl rfl ?_
          replace hf := bd1_s hf
          obtain ⟨r16, e_r16, hf⟩ := hf
          refine ax_getR fl_159 rfl dFi_fitsLater_81 e_r16 ?_
          refine ax_iload_n (i := 2) dFi_fitsLater_84 rfl rfl ?_
          refine ax_iconst (1 : Int32) dFi_fitsLater_85 k32_1 ?_
          refine ax_iload_n (i := 3) dFi_fitsLater_86 rfl rfl ?_
          replace hf := bd1_s hf
          obtain ⟨a17, e_d, hf⟩ := hf
          subst e_d
          replace hf := bd1_s hf
          obtain ⟨x18, e_x18, hf⟩ := hf
          obtain ⟨k_e_x18, e_x18⟩ := cv_s e_x18
          refine ax_callV (As := [.int y2, .int (1 : Int32), .int z3]) (rest := [.int x15, va_rf (some y0)]) (c_Ta_behind e_x18) ml_616 cm_Ta_behind rfl k_e_x18 (Nat.le_trans (Nat.le_of_ble_eq_true rfl) hR1) (Nat.le_trans (Nat.le_of_ble_eq_true rfl) hR2) rfl rfl (Nat.le_of_ble_eq_true rfl) dFi_fitsLater_87 ?_
          replace hf := bd1_s hf
          obtain ⟨x19, e_x19, hf⟩ := hf
          obtain ⟨k_e_x19, e_x19⟩ := cv_s e_x19
          refine ax_callV (As := [.int x15, .int x18]) (rest := []) (c_Fi_holds e_x19) ml_602 cm_Fi_holds rfl k_e_x19 (Nat.le_trans (Nat.le_of_ble_eq_true rfl) hR1) (Nat.le_trans (Nat.le_of_ble_eq_true rfl) hR2) rfl rfl (Nat.le_of_ble_eq_true rfl) dFi_fitsLater_90 ?_
          replace hf := ite_c hf
          rcases hf with ⟨hc, hf⟩ | ⟨hc, hf⟩
          · refine ax_if_neF 98 dFi_fitsLater_93 (by decide) hc ?_
            refine ax_iconst (0 : Int32) dFi_fitsLater_96 k32_0 ?_
            cases hf
            exact Hr (Or.inl rfl) _ _ dFi_fitsLater_97
          · refine ax_if_neT 98 dFi_fitsLater_93 (by decide) hc ?_
            refine ax_iinc (i := 3) (z3 + (1 : Int32)) [some (va_rf (some y0)), some (.int y1), some (.int y2), some (.int (z3 + (1 : Int32)))] dFi_fitsLater_98 rfl (iic k32_1) (Or.inr (c1i rfl)) rfl ?_
            refine ax_goto 2 dFi_fitsLater_101 (by decide) ?_
            exact ih (z3 + (1 : Int32)) hf
      · refine ax_if_eqF 53 dFi_fitsLater_21 (by decide) hc ?_
        refine ax_aload_n (i := 0) (some y0) dFi_fitsLater_24 rfl rfl ?_
        refine ax_aload_n (i := 0) (some y0) dFi_fitsLater_25 rfl rfl ?_
        replace hf := bd1_s hf
        obtain ⟨r20, e_r20, hf⟩ := hf
        refine ax_getR fl_158 rfl dFi_fitsLater_26 e_r20 ?_
        refine ax_iload_n (i := 1) dFi_fitsLater_29 rfl rfl ?_
        refine ax_iconst (0 : Int32) dFi_fitsLater_30 k32_0 ?_
        refine ax_iload_n (i := 3) dFi_fitsLater_31 rfl rfl ?_
        replace hf := bd1_s hf
        obtain ⟨a21, e_d, hf⟩ := hf
        subst e_d
        replace hf := bd1_s hf
        obtain ⟨x22, e_x22, hf⟩ := hf
        obtain ⟨k_e_x22, e_x22⟩ := cv_s e_x22
        refine ax_callV (As := [.int y1, .int (0 : Int32), .int z3]) (rest := [va_rf (some y0)]) (c_Ta_behind e_x22) ml_616 cm_Ta_behind rfl k_e_x22 (Nat.le_trans (Nat.le_of_ble_eq_true rfl) hR1) (Nat.le_trans (Nat.le_of_ble_eq_true rfl) hR2) rfl rfl (Nat.le_of_ble_eq_true rfl) dFi_fitsLater_32 ?_
        refine ax_aload_n (i := 0) (some y0) dFi_fitsLater_35 rfl rfl ?_
        replace hf := bd1_s hf
        obtain ⟨r23, e_r23, hf⟩ := hf
        refine ax_getR fl_159 rfl dFi_fitsLater_36 e_r23 ?_
        refine ax_iload_n (i := 2) dFi_fitsLater_39 rfl rfl ?_
        refine ax_iconst (0 : Int32) dFi_fitsLater_40 k32_0 ?_
        refine ax_iload_n (i := 3) dFi_fitsLater_41 rfl rfl ?_
        replace hf := bd1_s hf
        obtain ⟨a24, e_d, hf⟩ := hf
        subst e_d
        replace hf := bd1_s hf
        obtain ⟨x25, e_x25, hf⟩ := hf
        obtain ⟨k_e_x25, e_x25⟩ := cv_s e_x25
        refine ax_callV (As := [.int y2, .int (0 : Int32), .int z3]) (rest := [.int x22, va_rf (some y0)]) (c_Ta_behind e_x25) ml_616 cm_Ta_behind rfl k_e_x25 (Nat.le_trans (Nat.le_of_ble_eq_true rfl) hR1) (Nat.le_trans (Nat.le_of_ble_eq_true rfl) hR2) rfl rfl (Nat.le_of_ble_eq_true rfl) dFi_fitsLater_42 ?_
        replace hf := bd1_s hf
        obtain ⟨x26, e_x26, hf⟩ := hf
        obtain ⟨k_e_x26, e_x26⟩ := cv_s e_x26
        refine ax_callV (As := [.int x22, .int x25]) (rest := []) (c_Fi_holds e_x26) ml_602 cm_Fi_holds rfl k_e_x26 (Nat.le_trans (Nat.le_of_ble_eq_true rfl) hR1) (Nat.le_trans (Nat.le_of_ble_eq_true rfl) hR2) rfl rfl (Nat.le_of_ble_eq_true rfl) dFi_fitsLater_45 ?_
        replace hf := ite_c hf
        rcases hf with ⟨hc, hf⟩ | ⟨hc, hf⟩
        · refine ax_if_neF 53 dFi_fitsLater_48 (by decide) hc ?_
          refine ax_iconst (0 : Int32) dFi_fitsLater_51 k32_0 ?_
          cases hf
          exact Hr (Or.inl rfl) _ _ dFi_fitsLater_52
        · refine ax_if_neT 53 dFi_fitsLater_48 (by decide) hc ?_
          refine ax_aload_n (i := 0) (some y0) dFi_fitsLater_53 rfl rfl ?_
          replace hf := bd1_s hf
          obtain ⟨r27, e_r27, hf⟩ := hf
          refine ax_getR fl_158 rfl dFi_fitsLater_54 e_r27 ?_
          replace hf := bd1_s hf
          obtain ⟨a28, e_d, hf⟩ := hf
          subst e_d
          replace hf := bd1_s hf
          obtain ⟨r29, e_r29, hf⟩ := hf
          refine ax_getR fl_482 rfl dFi_fitsLater_57 e_r29 ?_
          refine ax_iload_n (i := 1) dFi_fitsLater_60 rfl rfl ?_
          replace hf := bd1_s hf
          obtain ⟨a30, e_d, hf⟩ := hf
          subst e_d
          replace hf := bd1_s hf
          obtain ⟨x31, e_x31, hf⟩ := hf
          refine ax_iald dFi_fitsLater_61 e_x31 ?_
          refine ax_iload_n (i := 3) dFi_fitsLater_62 rfl rfl ?_
          replace hf := bd1_s hf
          obtain ⟨x32, e_x32, hf⟩ := hf
          refine ax_callS (As := [.int x31, .int z3]) (rest := []) (c_C_hasBit e_x32) ml_606 cm_C_hasBit (Nat.le_trans (Nat.le_of_ble_eq_true rfl) hR1) (Nat.le_trans (Nat.le_of_ble_eq_true rfl) hR2) rfl rfl (Nat.le_of_ble_eq_true rfl) dFi_fitsLater_63 ?_
          replace hf := ite_c hf
          rcases hf with ⟨hc, hf⟩ | ⟨hc, hf⟩
          · refine ax_if_eqT 98 dFi_fitsLater_66 (by decide) hc ?_
            refine ax_iinc (i := 3) (z3 + (1 : Int32)) [some (va_rf (some y0)), some (.int y1), some (.int y2), some (.int (z3 + (1 : Int32)))] dFi_fitsLater_98 rfl (iic k32_1) (Or.inr (c1i rfl)) rfl ?_
            refine ax_goto 2 dFi_fitsLater_101 (by decide) ?_
            exact ih (z3 + (1 : Int32)) hf
          · refine ax_if_eqF 98 dFi_fitsLater_66 (by decide) hc ?_
            refine ax_aload_n (i := 0) (some y0) dFi_fitsLater_69 rfl rfl ?_
            refine ax_aload_n (i := 0) (some y0) dFi_fitsLater_70 rfl rfl ?_
            replace hf := bd1_s hf
            obtain ⟨r33, e_r33, hf⟩ := hf
            refine ax_getR fl_158 rfl dFi_fitsLater_71 e_r33 ?_
            refine ax_iload_n (i := 1) dFi_fitsLater_74 rfl rfl ?_
            refine ax_iconst (1 : Int32) dFi_fitsLater_75 k32_1 ?_
            refine ax_iload_n (i := 3) dFi_fitsLater_76 rfl rfl ?_
            replace hf := bd1_s hf
            obtain ⟨a34, e_d, hf⟩ := hf
            subst e_d
            replace hf := bd1_s hf
            obtain ⟨x35, e_x35, hf⟩ := hf
            obtain ⟨k_e_x35, e_x35⟩ := cv_s e_x35
            refine ax_callV (As := [.int y1, .int (1 : Int32), .int z3]) (rest := [va_rf (some y0)]) (c_Ta_behind e_x35) ml_616 cm_Ta_behind rfl k_e_x35 (Nat.le_trans (Nat.le_of_ble_eq_true rfl) hR1) (Nat.le_trans (Nat.le_of_ble_eq_true rfl) hR2) rfl rfl (Nat.le_of_ble_eq_true rfl) dFi_fitsLater_77 ?_
            refine ax_aload_n (i := 0) (some y0) dFi_fitsLater_80 rfl rfl ?_
            replace hf := bd1_s hf
            obtain ⟨r36, e_r36, hf⟩ := hf
            refine ax_getR fl_159 rfl dFi_fitsLater_81 e_r36 ?_
            refine ax_iload_n (i := 2) dFi_fitsLater_84 rfl rfl ?_
            refine ax_iconst (1 : Int32) dFi_fitsLater_85 k32_1 ?_
            refine ax_iload_n (i := 3) dFi_fitsLater_86 rfl rfl ?_
            replace hf := bd1_s hf
            obtain ⟨a37, e_d, hf⟩ := hf
            subst e_d
            replace hf := bd1_s hf
            obtain ⟨x38, e_x38, hf⟩ := hf
            obtain ⟨k_e_x38, e_x38⟩ := cv_s e_x38
            refine ax_callV (As := [.int y2, .int (1 : Int32), .int z3]) (rest := [.int x35, va_rf (some y0)]) (c_Ta_behind e_x38) ml_616 cm_Ta_behind rfl k_e_x38 (Nat.le_trans (Nat.le_of_ble_eq_true rfl) hR1) (Nat.le_trans (Nat.le_of_ble_eq_true rfl) hR2) rfl rfl (Nat.le_of_ble_eq_true rfl) dFi_fitsLater_87 ?_
            replace hf := bd1_s hf
            obtain ⟨x39, e_x39, hf⟩ := hf
            obtain ⟨k_e_x39, e_x39⟩ := cv_s e_x39
            refine ax_callV (As := [.int x35, .int x38]) (rest := []) (c_Fi_holds e_x39) ml_602 cm_Fi_holds rfl k_e_x39 (Nat.le_trans (Nat.le_of_ble_eq_true rfl) hR1) (Nat.le_trans (Nat.le_of_ble_eq_true rfl) hR2) rfl rfl (Nat.le_of_ble_eq_true rfl) dFi_fitsLater_90 ?_
            replace hf := ite_c hf
            rcases hf with ⟨hc, hf⟩ | ⟨hc, hf⟩
            · refine ax_if_neF 98 dFi_fitsLater_93 (by decide) hc ?_
              refine ax_iconst (0 : Int32) dFi_fitsLater_96 k32_0 ?_
              cases hf
              exact Hr (Or.inl rfl) _ _ dFi_fitsLater_97
            · refine ax_if_neT 98 dFi_fitsLater_93 (by decide) hc ?_
              refine ax_iinc (i := 3) (z3 + (1 : Int32)) [some (va_rf (some y0)), some (.int y1), some (.int y2), some (.int (z3 + (1 : Int32)))] dFi_fitsLater_98 rfl (iic k32_1) (Or.inr (c1i rfl)) rfl ?_
              refine ax_goto 2 dFi_fitsLater_101 (by decide) ?_
              exact ih (z3 + (1 : Int32)) hf
    · refine ax_icmp_geT 104 dFi_fitsLater_5 (by decide) hc ?_
      refine ax_iconst (1 : Int32) dFi_fitsLater_104 k32_1 ?_
      cases hf
      exact Hr (Or.inr rfl) _ _ dFi_fitsLater_105
theorem v_Fi_fitsLater {l : Launch} {E : EN} {R : Room} {B : (Nat × Nat) × (Nat × Nat)} {Qf : QF} {h0 : AH} {o : Nat} {p1 : Int32} {p2 : Int32} {r : Int32} (hR1 : 3 ≤ R.frames) (hR2 : 192 ≤ R.locals) (Hr : (r = 0 ∨ r = 1) → ∀ (pc : Nat) (L : List (Option Value)), decode mi_Fi_fitsLater.2.1 pc = .ok (.ireturn, 1) → AW l E mi_Fi_fitsLater R B Qf pc L [.int r] h0) (hf : f_Fi_fitsLater h0 o p1 p2 = some r) : AW l E mi_Fi_fitsLater R B Qf 0 [some (va_rf (some o)), some (.int p1), some (.int p2), none] [] h0 := by
  unfold f_Fi_fitsLater at hf
  refine ax_iconst (0 : Int32) dFi_fitsLater_0 k32_0 ?_
  refine ax_istore_n (i := 3) [some (va_rf (some o)), some (.int p1), some (.int p2), some (.int (0 : Int32))] dFi_fitsLater_1 rfl (Nat.le_of_ble_eq_true rfl) (Or.inr (c1i rfl)) rfl ?_
  refine w_Fi_fitsLater_L2 hR1 hR2 Hr FU (0 : Int32) hf
theorem c_Fi_fitsLater {l : Launch} {E : EN} {h0 : AH} {o : Nat} {p1 : Int32} {p2 : Int32} {r : Int32} (hf : f_Fi_fitsLater h0 o p1 p2 = some r) : AM l E 3 mi_Fi_fitsLater [va_rf (some o), .int p1, .int p2] h0 (some (.int r)) h0 :=
  am_of2 [(va_rf (some o), false), (.int p1, false), (.int p2, false)] 1 ⟨cat_rf _, rfl, rfl, trivial⟩ rfl rfl (v_Fi_fitsLater (Nat.le_refl _) (Nat.le_refl _) (fun hz pc L hd => ax_zret rfl hz hd rfl) hf)
theorem w_Fi_dropsSome_L17 {l : Launch} {E : EN} {R : Room} {B : (Nat × Nat) × (Nat × Nat)} {Qf : QF} {ρ : Type} {res : ρ} (hR1 : 4 ≤ R.frames) (hR2 : 256 ≤ R.locals) {y0 : Nat} {y2 : Int32} {k : Int32 → AH → Option (ρ)} (hk : ∀ (z1 : Int32) (h : AH), k z1 h = some res → AW l E mi_Fi_dropsSome R B Qf 77 [some (va_rf (some y0)), some (.int z1), some (.int y2), none] [] h) : ∀ (n : Nat) (z1 : Int32) (z3 : Int32) (h : AH), f_Fi_dropsSome_L17 y0 y2 k n z1 z3 h = some res → AW l E mi_Fi_dropsSome R B Qf 17 [some (va_rf (some y0)), some (.int z1), some (.int y2), some (.int z3)] [] h := by
  intro n
  induction n with
  | zero => intro z1 z3 h hf; cases hf
  | succ n ih =>
    intro z1 z3 h hf
    rw [f_Fi_dropsSome_L17] at hf
    refine ax_iload_n (i := 3) dFi_dropsSome_17 rfl rfl ?_
    refine ax_aload_n (i := 0) (some y0) dFi_dropsSome_18 rfl rfl ?_
    replace hf := bd1_s hf
    obtain ⟨r4, e_r4, hf⟩ := hf
    refine ax_getR fl_159 rfl dFi_dropsSome_19 e_r4 ?_
    replace hf := bd1_s hf
    obtain ⟨a5, e_d, hf⟩ := hf
    subst e_d
    replace hf := bd1_s hf
    obtain ⟨x6, e_x6, hf⟩ := hf
    refine ax_getI fl_472 rfl dFi_dropsSome_22 e_x6 ?_
    replace hf := ite_c hf
    rcases hf with ⟨hc, hf⟩ | ⟨hc, hf⟩
    · refine ax_icmp_gtT 77 dFi_dropsSome_25 (by decide) hc ?_
      refine ax_mask [true, true, true, false] rfl [some (va_rf (some y0)), some (.int z1), some (.int y2), none] rfl ?_
      exact hk z1 h hf
    · refine ax_icmp_gtF 77 dFi_dropsSome_25 (by decide) hc ?_
      refine ax_aload_n (i := 0) (some y0) dFi_dropsSome_28 rfl rfl ?_
      refine ax_iload_n (i := 2) dFi_dropsSome_29 rfl rfl ?_
      refine ax_iload_n (i := 3) dFi_dropsSome_30 rfl rfl ?_
      replace hf := bd1_s hf
      obtain ⟨x7, e_x7, hf⟩ := hf
      obtain ⟨k_e_x7, e_x7⟩ := cv_s e_x7
      refine ax_callV (As := [.int y2, .int z3]) (rest := []) (c_Fi_holds e_x7) ml_602 cm_Fi_holds rfl k_e_x7 (Nat.le_trans (Nat.le_of_ble_eq_true rfl) hR1) (Nat.le_trans (Nat.le_of_ble_eq_true rfl) hR2) rfl rfl (Nat.le_of_ble_eq_true rfl) dFi_dropsSome_31 ?_
      replace hf := ite_c hf
      rcases hf with ⟨hc, hf⟩ | ⟨hc, hf⟩
      · refine ax_if_eqT 71 dFi_dropsSome_34 (by decide) hc ?_
        refine ax_iinc (i := 3) (z3 + (1 : Int32)) [some (va_rf (some y0)), some (.int z1), some (.int y2), some (.int (z3 + (1 : Int32)))] dFi_dropsSome_71 rfl (iic k32_1) (Or.inr (c1i rfl)) rfl ?_
        refine ax_goto 17 dFi_dropsSome_74 (by decide) ?_
        exact ih z1 (z3 + (1 : Int32)) h hf
      · refine ax_if_eqF 71 dFi_dropsSome_34 (by decide) hc ?_
        refine ax_aload_n (i := 0) (some y0) dFi_dropsSome_37 rfl rfl ?_
        refine ax_iload_n (i := 2) dFi_dropsSome_38 rfl rfl ?_
        refine ax_iload_n (i := 3) dFi_dropsSome_39 rfl rfl ?_
        replace hf := bd1_s hf
        obtain ⟨x8, e_x8, hf⟩ := hf
        obtain ⟨k_e_x8, e_x8⟩ := cv_s e_x8
        refine ax_callV (As := [.int y2, .int z3]) (rest := []) (c_Fi_fitsNow e_x8) ml_607 cm_Fi_fitsNow rfl k_e_x8 (Nat.le_trans (Nat.le_of_ble_eq_true rfl) hR1) (Nat.le_trans (Nat.le_of_ble_eq_true rfl) hR2) rfl rfl (Nat.le_of_ble_eq_true rfl) dFi_dropsSome_40 ?_
        replace hf := ite_c hf
        rcases hf with ⟨hc, hf⟩ | ⟨hc, hf⟩
        · refine ax_if_eqT 55 dFi_dropsSome_43 (by decide) hc ?_
          refine ax_aload_n (i := 0) (some y0) dFi_dropsSome_55 rfl rfl ?_
          replace hf := bd1_s hf
          obtain ⟨r9, e_r9, hf⟩ := hf
          refine ax_getR fl_157 rfl dFi_dropsSome_56 e_r9 ?_
          refine ax_iload_n (i := 2) dFi_dropsSome_59 rfl rfl ?_
          refine ax_dup2 dFi_dropsSome_60 rfl (cat_rf _) ?_
          replace hf := bd1_s hf
          obtain ⟨a10, e_d, hf⟩ := hf
          subst e_d
          replace hf := bd1_s hf
          obtain ⟨x11, e_x11, hf⟩ := hf
          refine ax_iald dFi_dropsSome_61 e_x11 ?_
          refine ax_iconst (1 : Int32) dFi_dropsSome_62 k32_1 ?_
          refine ax_iload_n (i := 3) dFi_dropsSome_63 rfl rfl ?_
          refine ax_ishl dFi_dropsSome_64 ?_
          refine ax_iconst (-1 : Int32) dFi_dropsSome_65 k32_m1 ?_
          refine ax_ixor dFi_dropsSome_66 ?_
          refine ax_iand dFi_dropsSome_67 ?_
          replace hf := bd1_s hf
          obtain ⟨h12, e_h12, hf⟩ := hf
          refine ax_iast dFi_dropsSome_68 e_h12 ?_
          refine ax_iconst (1 : Int32) dFi_dropsSome_69 k32_1 ?_
          refine ax_istore_n (i := 1) [some (va_rf (some y0)), some (.int (1 : Int32)), some (.int y2), some (.int z3)] dFi_dropsSome_70 rfl (Nat.le_of_ble_eq_true rfl) (Or.inr (c1r rfl)) rfl ?_
          refine ax_iinc (i := 3) (z3 + (1 : Int32)) [some (va_rf (some y0)), some (.int (1 : Int32)), some (.int y2), some (.int (z3 + (1 : Int32)))] dFi_dropsSome_71 rfl (iic k32_1) (Or.inr (c1i rfl)) rfl ?_
          refine ax_goto 17 dFi_dropsSome_74 (by decide) ?_
          exact ih (1 : Int32) (z3 + (1 : Int32)) h12 hf
        · refine ax_if_eqF 55 dFi_dropsSome_43 (by decide) hc ?_
          refine ax_aload_n (i := 0) (some y0) dFi_dropsSome_46 rfl rfl ?_
          refine ax_iload_n (i := 2) dFi_dropsSome_47 rfl rfl ?_
          refine ax_iload_n (i := 3) dFi_dropsSome_48 rfl rfl ?_
          replace hf := bd1_s hf
          obtain ⟨x13, e_x13, hf⟩ := hf
          obtain ⟨k_e_x13, e_x13⟩ := cv_s e_x13
          refine ax_callV (As := [.int y2, .int z3]) (rest := []) (c_Fi_fitsLater e_x13) ml_612 cm_Fi_fitsLater rfl k_e_x13 (Nat.le_trans (Nat.le_of_ble_eq_true rfl) hR1) (Nat.le_trans (Nat.le_of_ble_eq_true rfl) hR2) rfl rfl (Nat.le_of_ble_eq_true rfl) dFi_dropsSome_49 ?_
          replace hf := ite_c hf
          rcases hf with ⟨hc, hf⟩ | ⟨hc, hf⟩
          · refine ax_if_neF 71 dFi_dropsSome_52 (by decide) hc ?_
            refine ax_aload_n (i := 0) (some y0) dFi_dropsSome_55 rfl rfl ?_
            replace hf := bd1_s hf
            obtain ⟨r14, e_r14, hf⟩ := hf
            refine ax_getR fl_157 rfl dFi_dropsSome_56 e_r14 ?_
            refine ax_iload_n (i := 2) dFi_dropsSome_59 rfl rfl ?_
            refine ax_dup2 dFi_dropsSome_60 rfl (cat_rf _) ?_
            replace hf := bd1_s hf
            obtain ⟨a15, e_d, hf⟩ := hf
            subst e_d
            replace hf := bd1_s hf
            obtain ⟨x16, e_x16, hf⟩ := hf
            refine ax_iald dFi_dropsSome_61 e_x16 ?_
            refine ax_iconst (1 : Int32) dFi_dropsSome_62 k32_1 ?_
            refine ax_iload_n (i := 3) dFi_dropsSome_63 rfl rfl ?_
            refine ax_ishl dFi_dropsSome_64 ?_
            refine ax_iconst (-1 : Int32) dFi_dropsSome_65 k32_m1 ?_
            refine ax_ixor dFi_dropsSome_66 ?_
            refine ax_iand dFi_dropsSome_67 ?_
            replace hf := bd1_s hf
            obtain ⟨h17, e_h17, hf⟩ := hf
            refine ax_iast dFi_dropsSome_68 e_h17 ?_
            refine ax_iconst (1 : Int32) dFi_dropsSome_69 k32_1 ?_
            refine ax_istore_n (i := 1) [some (va_rf (some y0)), some (.int (1 : Int32)), some (.int y2), some (.int z3)] dFi_dropsSome_70 rfl (Nat.le_of_ble_eq_true rfl) (Or.inr (c1r rfl)) rfl ?_
            refine ax_iinc (i := 3) (z3 + (1 : Int32)) [some (va_rf (some y0)), some (.int (1 : Int32)), some (.int y2), some (.int (z3 + (1 : Int32)))] dFi_dropsSome_71 rfl (iic k32_1) (Or.inr (c1i rfl)) rfl ?_
            refine ax_goto 17 dFi_dropsSome_74 (by decide) ?_
            exact ih (1 : Int32) (z3 + (1 : Int32)) h17 hf
          · refine ax_if_neT 71 dFi_dropsSome_52 (by decide) hc ?_
            refine ax_iinc (i := 3) (z3 + (1 : Int32)) [some (va_rf (some y0)), some (.int z1), some (.int y2), some (.int (z3 + (1 : Int32)))] dFi_dropsSome_71 rfl (iic k32_1) (Or.inr (c1i rfl)) rfl ?_
            refine ax_goto 17 dFi_dropsSome_74 (by decide) ?_
            exact ih z1 (z3 + (1 : Int32)) h hf
theorem w_Fi_dropsSome_L4 {l : Launch} {E : EN} {R : Room} {B : (Nat × Nat) × (Nat × Nat)} {Qf : QF} {r : Int32} {hF : AH} (hR1 : 4 ≤ R.frames) (hR2 : 256 ≤ R.locals) (Hr : (r = 0 ∨ r = 1) → ∀ (pc : Nat) (L : List (Option Value)), decode mi_Fi_dropsSome.2.1 pc = .ok (.ireturn, 1) → AW l E mi_Fi_dropsSome R B Qf pc L [.int r] hF) {y0 : Nat} : ∀ (n : Nat) (z1 : Int32) (z2 : Int32) (h : AH), f_Fi_dropsSome_L4 y0 n z1 z2 h = some (r, hF) → AW l E mi_Fi_dropsSome R B Qf 4 [some (va_rf (some y0)), some (.int z1), some (.int z2), none] [] h := by
  intro n
  induction n with
  | zero => intro z1 z2 h hf; cases hf
  | succ n ih =>
    intro z1 z2 h hf
    rw [f_Fi_dropsSome_L4] at hf
    refine ax_iload_n (i := 2) dFi_dropsSome_4 rfl rfl ?_
    refine ax_aload_n (i := 0) (some y0) dFi_dropsSome_5 rfl rfl ?_
    replace hf := bd1_s hf
    obtain ⟨r1, e_r1, hf⟩ := hf
    refine ax_getR fl_158 rfl dFi_dropsSome_6 e_r1 ?_
    replace hf := bd1_s hf
    obtain ⟨a2, e_d, hf⟩ := hf
    subst e_d
    replace hf := bd1_s hf
    obtain ⟨x3, e_x3, hf⟩ := hf
    refine ax_getI fl_472 rfl dFi_dropsSome_9 e_x3 ?_
    replace hf := ite_c hf
    rcases hf with ⟨hc, hf⟩ | ⟨hc, hf⟩
    · refine ax_icmp_gtT 83 dFi_dropsSome_12 (by decide) hc ?_
      refine ax_iload_n (i := 1) dFi_dropsSome_83 rfl rfl ?_
      replace hf := ite_s hf
      obtain ⟨e_z, hf⟩ := hf
      cases hf
      exact Hr e_z _ _ dFi_dropsSome_84
    · refine ax_icmp_gtF 83 dFi_dropsSome_12 (by decide) hc ?_
      refine ax_iconst (0 : Int32) dFi_dropsSome_15 k32_0 ?_
      refine ax_istore_n (i := 3) [some (va_rf (some y0)), some (.int z1), some (.int z2), some (.int (0 : Int32))] dFi_dropsSome_16 rfl (Nat.le_of_ble_eq_true rfl) (Or.inr (c1i rfl)) rfl ?_
      refine w_Fi_dropsSome_L17 hR1 hR2 (fun x18 h19 hf => ?_) FU z1 (0 : Int32) h hf
      refine ax_iinc (i := 2) (z2 + (1 : Int32)) [some (va_rf (some y0)), some (.int x18), some (.int (z2 + (1 : Int32))), none] dFi_dropsSome_77 rfl (iic k32_1) (Or.inr (c1i rfl)) rfl ?_
      refine ax_goto 4 dFi_dropsSome_80 (by decide) ?_
      exact ih x18 (z2 + (1 : Int32)) h19 hf
theorem v_Fi_dropsSome {l : Launch} {E : EN} {R : Room} {B : (Nat × Nat) × (Nat × Nat)} {Qf : QF} {h0 : AH} {o : Nat} {r : Int32} {hF : AH} (hR1 : 4 ≤ R.frames) (hR2 : 256 ≤ R.locals) (Hr : (r = 0 ∨ r = 1) → ∀ (pc : Nat) (L : List (Option Value)), decode mi_Fi_dropsSome.2.1 pc = .ok (.ireturn, 1) → AW l E mi_Fi_dropsSome R B Qf pc L [.int r] hF) (hf : f_Fi_dropsSome h0 o = some (r, hF)) : AW l E mi_Fi_dropsSome R B Qf 0 [some (va_rf (some o)), none, none, none] [] h0 := by
  unfold f_Fi_dropsSome at hf
  refine ax_iconst (0 : Int32) dFi_dropsSome_0 k32_0 ?_
  refine ax_istore_n (i := 1) [some (va_rf (some o)), some (.int (0 : Int32)), none, none] dFi_dropsSome_1 rfl (Nat.le_of_ble_eq_true rfl) (Or.inr (c1r rfl)) rfl ?_
  refine ax_iconst (0 : Int32) dFi_dropsSome_2 k32_0 ?_
  refine ax_istore_n (i := 2) [some (va_rf (some o)), some (.int (0 : Int32)), some (.int (0 : Int32)), none] dFi_dropsSome_3 rfl (Nat.le_of_ble_eq_true rfl) (Or.inr (c1i rfl)) rfl ?_
  refine w_Fi_dropsSome_L4 hR1 hR2 Hr FU (0 : Int32) (0 : Int32) h0 hf
theorem c_Fi_dropsSome {l : Launch} {E : EN} {h0 : AH} {o : Nat} {r : Int32} {hF : AH} (hf : f_Fi_dropsSome h0 o = some (r, hF)) : AM l E 4 mi_Fi_dropsSome [va_rf (some o)] h0 (some (.int r)) hF :=
  am_of2 [(va_rf (some o), false)] 3 ⟨cat_rf _, trivial⟩ rfl rfl (v_Fi_dropsSome (Nat.le_refl _) (Nat.le_refl _) (fun hz pc L hd => ax_zret rfl hz hd rfl) hf)
theorem w_Fi_compare_L35 {l : Launch} {E : EN} {R : Room} {B : (Nat × Nat) × (Nat × Nat)} {Qf : QF} {hF : AH} (hR1 : 5 ≤ R.frames) (hR2 : 320 ≤ R.locals) (Hr : ∀ (pc : Nat) (L : List (Option Value)), decode mi_Fi_compare.2.1 pc = .ok (.return_, 1) → AW l E mi_Fi_compare R B Qf pc L [] hF) {y0 : Nat} : ∀ (n : Nat) (z3 : Int32) (z4 : Int32) (h : AH), f_Fi_compare_L35 y0 n z3 z4 h = some hF → AW l E mi_Fi_compare R B Qf 35 [some (va_rf (some y0)), none, none, some (.int z3), some (.int z4)] [] h := by
  intro n
  induction n with
  | zero => intro z3 z4 h hf; cases hf
  | succ n ih =>
    intro z3 z4 h hf
    rw [f_Fi_compare_L35] at hf
    refine ax_iload (i := 4) dFi_compare_35 rfl ?_
    refine ax_sipush (625 : Int32) dFi_compare_37 k16_625 ?_
    replace hf := ite_c hf
    rcases hf with ⟨hc, hf⟩ | ⟨hc, hf⟩
    · refine ax_icmp_gtT 58 dFi_compare_40 (by decide) hc ?_
      cases hf
      exact Hr _ _ dFi_compare_58
    · refine ax_icmp_gtF 58 dFi_compare_40 (by decide) hc ?_
      refine ax_iload_n (i := 3) dFi_compare_43 rfl rfl ?_
      replace hf := ite_c hf
      rcases hf with ⟨hc, hf⟩ | ⟨hc, hf⟩
      · refine ax_if_eqT 58 dFi_compare_44 (by decide) hc ?_
        cases hf
        exact Hr _ _ dFi_compare_58
      · refine ax_if_eqF 58 dFi_compare_44 (by decide) hc ?_
        refine ax_aload_n (i := 0) (some y0) dFi_compare_47 rfl rfl ?_
        replace hf := bd2_s hf
        obtain ⟨x8, h9, e_x8, hf⟩ := hf
        obtain ⟨k_e_x8, e_x8⟩ := cv_s e_x8
        refine ax_callV (As := []) (rest := []) (c_Fi_dropsSome e_x8) ml_598 cm_Fi_dropsSome rfl k_e_x8 (Nat.le_trans (Nat.le_of_ble_eq_true rfl) hR1) (Nat.le_trans (Nat.le_of_ble_eq_true rfl) hR2) rfl rfl (Nat.le_of_ble_eq_true rfl) dFi_compare_48 ?_
        refine ax_istore_n (i := 3) [some (va_rf (some y0)), none, none, some (.int x8), some (.int z4)] dFi_compare_51 rfl (Nat.le_of_ble_eq_true rfl) (Or.inr (c1n rfl)) rfl ?_
        refine ax_iinc (i := 4) (z4 + (1 : Int32)) [some (va_rf (some y0)), none, none, some (.int x8), some (.int (z4 + (1 : Int32)))] dFi_compare_52 rfl (iic k32_1) (Or.inr (c1i rfl)) rfl ?_
        refine ax_goto 35 dFi_compare_55 (by decide) ?_
        exact ih x8 (z4 + (1 : Int32)) h9 hf
theorem v_Fi_compare {l : Launch} {E : EN} {R : Room} {B : (Nat × Nat) × (Nat × Nat)} {Qf : QF} {h0 : AH} {o : Nat} {p1 : Option Nat} {p2 : Option Nat} {hF : AH} (hR1 : 5 ≤ R.frames) (hR2 : 320 ≤ R.locals) (Hr : ∀ (pc : Nat) (L : List (Option Value)), decode mi_Fi_compare.2.1 pc = .ok (.return_, 1) → AW l E mi_Fi_compare R B Qf pc L [] hF) (hf : f_Fi_compare h0 o p1 p2 = some hF) : AW l E mi_Fi_compare R B Qf 0 [some (va_rf (some o)), some (va_rf p1), some (va_rf p2), none, none] [] h0 := by
  unfold f_Fi_compare at hf
  refine ax_aload_n (i := 0) (some o) dFi_compare_0 rfl rfl ?_
  refine ax_aload_n (i := 1) p1 dFi_compare_1 rfl rfl ?_
  replace hf := bd1_s hf
  obtain ⟨h1, e_h1, hf⟩ := hf
  refine ax_putR (v := p1) fw_158 rfl rfl dFi_compare_2 e_h1 ?_
  refine ax_aload_n (i := 0) (some o) dFi_compare_5 rfl rfl ?_
  refine ax_aload_n (i := 2) p2 dFi_compare_6 rfl rfl ?_
  replace hf := bd1_s hf
  obtain ⟨h2, e_h2, hf⟩ := hf
  refine ax_putR (v := p2) fw_159 rfl rfl dFi_compare_7 e_h2 ?_
  refine ax_aload_n (i := 0) (some o) dFi_compare_10 rfl rfl ?_
  replace hf := bd1_s hf
  obtain ⟨r3, e_r3, hf⟩ := hf
  refine ax_getR fl_157 rfl dFi_compare_11 e_r3 ?_
  refine ax_iconst (1 : Int32) dFi_compare_14 k32_1 ?_
  refine ax_aload_n (i := 0) (some o) dFi_compare_15 rfl rfl ?_
  replace hf := bd1_s hf
  obtain ⟨r4, e_r4, hf⟩ := hf
  refine ax_getR fl_159 rfl dFi_compare_16 e_r4 ?_
  replace hf := bd1_s hf
  obtain ⟨a5, e_d, hf⟩ := hf
  subst e_d
  replace hf := bd1_s hf
  obtain ⟨x6, e_x6, hf⟩ := hf
  refine ax_getI fl_472 rfl dFi_compare_19 e_x6 ?_
  refine ax_iconst (1 : Int32) dFi_compare_22 k32_1 ?_
  refine ax_iadd dFi_compare_23 ?_
  refine ax_ishl dFi_compare_24 ?_
  refine ax_iconst (1 : Int32) dFi_compare_25 k32_1 ?_
  refine ax_isub dFi_compare_26 ?_
  replace hf := bd1_s hf
  obtain ⟨h7, e_h7, hf⟩ := hf
  refine ax_callS (As := [va_rf r3, .int (((1 : Int32) <<< ((x6 + (1 : Int32)) &&& 31)) - (1 : Int32))]) (rest := []) (c_jA_fill_I e_h7) ml_597 cm_jA_fill_I (Nat.le_trans (Nat.le_of_ble_eq_true rfl) hR1) (Nat.le_trans (Nat.le_of_ble_eq_true rfl) hR2) rfl rfl (Nat.le_of_ble_eq_true rfl) dFi_compare_27 ?_
  refine ax_iconst (1 : Int32) dFi_compare_30 k32_1 ?_
  refine ax_istore_n (i := 3) [some (va_rf (some o)), some (va_rf p1), some (va_rf p2), some (.int (1 : Int32)), none] dFi_compare_31 rfl (Nat.le_of_ble_eq_true rfl) (Or.inr (c1r rfl)) rfl ?_
  refine ax_iconst (0 : Int32) dFi_compare_32 k32_0 ?_
  refine ax_istore (i := 4) [some (va_rf (some o)), some (va_rf p1), some (va_rf p2), some (.int (1 : Int32)), some (.int (0 : Int32))] dFi_compare_33 (Nat.le_of_ble_eq_true rfl) (Or.inr (c1i rfl)) rfl ?_
  refine ax_mask [true, false, false, true, true] rfl [some (va_rf (some o)), none, none, some (.int (1 : Int32)), some (.int (0 : Int32))] rfl ?_
  refine w_Fi_compare_L35 hR1 hR2 Hr FU (1 : Int32) (0 : Int32) h7 hf
theorem c_Fi_compare {l : Launch} {E : EN} {h0 : AH} {o : Nat} {p1 : Option Nat} {p2 : Option Nat} {hF : AH} (hf : f_Fi_compare h0 o p1 p2 = some hF) : AM l E 5 mi_Fi_compare [va_rf (some o), va_rf p1, va_rf p2] h0 none hF :=
  am_of2 [(va_rf (some o), false), (va_rf p1, false), (va_rf p2, false)] 2 ⟨cat_rf _, cat_rf _, cat_rf _, trivial⟩ rfl rfl (v_Fi_compare (Nat.le_refl _) (Nat.le_refl _) (fun pc L hd => ax_vret rfl hd rfl) hf)
theorem v_C_fit {l : Launch} {E : EN} {R : Room} {B : (Nat × Nat) × (Nat × Nat)} {Qf : QF} {h0 : AH} {o : Nat} {p1 : Int32} {p2 : Int32} {r : Int32} {hF : AH} (hR1 : 6 ≤ R.frames) (hR2 : 384 ≤ R.locals) (Hr : ∀ (pc : Nat) (L : List (Option Value)), decode mi_C_fit.2.1 pc = .ok (.ireturn, 1) → AW l E mi_C_fit R B Qf pc L [.int r] hF) (hf : f_C_fit h0 o p1 p2 = some (r, hF)) : AW l E mi_C_fit R B Qf 0 [some (va_rf (some o)), some (.int p1), some (.int p2), none, none] [] h0 := by
  unfold f_C_fit at hf
  refine ax_aload_n (i := 0) (some o) dC_fit_0 rfl rfl ?_
  refine ax_iload_n (i := 1) dC_fit_1 rfl rfl ?_
  replace hf := bd1_s hf
  obtain ⟨r1, e_r1, hf⟩ := hf
  obtain ⟨k_e_r1, e_r1⟩ := cv_s e_r1
  refine ax_callV (As := [.int p1]) (rest := []) (c_C_talkNumbered e_r1) ml_499 cm_C_talkNumbered rfl k_e_r1 (Nat.le_trans (Nat.le_of_ble_eq_true rfl) hR1) (Nat.le_trans (Nat.le_of_ble_eq_true rfl) hR2) rfl rfl (Nat.le_of_ble_eq_true rfl) dC_fit_2 ?_
  refine ax_astore_n (i := 3) (r := r1) [some (va_rf (some o)), some (.int p1), some (.int p2), some (va_rf r1), none] dC_fit_5 rfl (Nat.le_of_ble_eq_true rfl) (Or.inr (c1i rfl)) rfl ?_
  refine ax_aload_n (i := 0) (some o) dC_fit_6 rfl rfl ?_
  refine ax_iload_n (i := 2) dC_fit_7 rfl rfl ?_
  replace hf := bd1_s hf
  obtain ⟨r2, e_r2, hf⟩ := hf
  obtain ⟨k_e_r2, e_r2⟩ := cv_s e_r2
  refine ax_callV (As := [.int p2]) (rest := []) (c_C_talkNumbered e_r2) ml_499 cm_C_talkNumbered rfl k_e_r2 (Nat.le_trans (Nat.le_of_ble_eq_true rfl) hR1) (Nat.le_trans (Nat.le_of_ble_eq_true rfl) hR2) rfl rfl (Nat.le_of_ble_eq_true rfl) dC_fit_8 ?_
  refine ax_astore (i := 4) (r := r2) [some (va_rf (some o)), some (.int p1), some (.int p2), some (va_rf r1), some (va_rf r2)] dC_fit_11 (Nat.le_of_ble_eq_true rfl) (Or.inr (c1r rfl)) rfl ?_
  refine ax_aload_n (i := 3) r1 dC_fit_13 rfl rfl ?_
  replace hf := onl_s hf
  rcases hf with ⟨e_d, hf⟩ | ⟨a3, e_d, hf⟩
  · subst e_d
    refine ax_ifnullT 22 dC_fit_14 (by decide) ?_
    refine ax_bipush (-101 : Int32) dC_fit_22 k8_m101 ?_
    cases hf
    exact Hr _ _ dC_fit_24
  · subst e_d
    refine ax_ifnullF dC_fit_14 ?_
    refine ax_aload (i := 4) r2 dC_fit_17 rfl ?_
    replace hf := onl_s hf
    rcases hf with ⟨e_d, hf⟩ | ⟨a4, e_d, hf⟩
    · subst e_d
      refine ax_ifnonnullF dC_fit_19 ?_
      refine ax_bipush (-101 : Int32) dC_fit_22 k8_m101 ?_
      cases hf
      exact Hr _ _ dC_fit_24
    · subst e_d
      refine ax_ifnonnullT 25 dC_fit_19 (by decide) ?_
      refine ax_aload_n (i := 0) (some o) dC_fit_25 rfl rfl ?_
      replace hf := bd1_s hf
      obtain ⟨r5, e_r5, hf⟩ := hf
      refine ax_getR fl_325 rfl dC_fit_26 e_r5 ?_
      refine ax_aload_n (i := 3) (some a3) dC_fit_29 rfl rfl ?_
      refine ax_aload (i := 4) (some a4) dC_fit_30 rfl ?_
      replace hf := bd1_s hf
      obtain ⟨a6, e_d, hf⟩ := hf
      subst e_d
      replace hf := bd1_s hf
      obtain ⟨h7, e_h7, hf⟩ := hf
      obtain ⟨k_e_h7, e_h7⟩ := cv_s e_h7
      refine ax_callV (As := [va_rf (some a3), va_rf (some a4)]) (rest := []) (c_Fi_compare e_h7) ml_593 cm_Fi_compare rfl k_e_h7 (Nat.le_trans (Nat.le_of_ble_eq_true rfl) hR1) (Nat.le_trans (Nat.le_of_ble_eq_true rfl) hR2) rfl rfl (Nat.le_of_ble_eq_true rfl) dC_fit_32 ?_
      refine ax_aload_n (i := 0) (some o) dC_fit_35 rfl rfl ?_
      replace hf := bd1_s hf
      obtain ⟨r8, e_r8, hf⟩ := hf
      refine ax_getR fl_325 rfl dC_fit_36 e_r8 ?_
      refine ax_iconst (0 : Int32) dC_fit_39 k32_0 ?_
      refine ax_iconst (0 : Int32) dC_fit_40 k32_0 ?_
      replace hf := bd1_s hf
      obtain ⟨a9, e_d, hf⟩ := hf
      subst e_d
      replace hf := bd1_s hf
      obtain ⟨x10, e_x10, hf⟩ := hf
      obtain ⟨k_e_x10, e_x10⟩ := cv_s e_x10
      refine ax_callV (As := [.int (0 : Int32), .int (0 : Int32)]) (rest := []) (c_Fi_holds e_x10) ml_617 cm_Fi_holds rfl k_e_x10 (Nat.le_trans (Nat.le_of_ble_eq_true rfl) hR1) (Nat.le_trans (Nat.le_of_ble_eq_true rfl) hR2) rfl rfl (Nat.le_of_ble_eq_true rfl) dC_fit_41 ?_
      replace hf := ite_c hf
      rcases hf with ⟨hc, hf⟩ | ⟨hc, hf⟩
      · refine ax_if_eqT 51 dC_fit_44 (by decide) hc ?_
        refine ax_iconst (0 : Int32) dC_fit_51 k32_0 ?_
        cases hf
        exact Hr _ _ dC_fit_52
      · refine ax_if_eqF 51 dC_fit_44 (by decide) hc ?_
        refine ax_iconst (1 : Int32) dC_fit_47 k32_1 ?_
        refine ax_goto 52 dC_fit_48 (by decide) ?_
        cases hf
        exact Hr _ _ dC_fit_52
theorem c_C_fit {l : Launch} {E : EN} {h0 : AH} {o : Nat} {p1 : Int32} {p2 : Int32} {r : Int32} {hF : AH} (hf : f_C_fit h0 o p1 p2 = some (r, hF)) : AM l E 6 mi_C_fit [va_rf (some o), .int p1, .int p2] h0 (some (.int r)) hF :=
  am_of2 [(va_rf (some o), false), (.int p1, false), (.int p2, false)] 2 ⟨cat_rf _, rfl, rfl, trivial⟩ rfl rfl (v_C_fit (Nat.le_refl _) (Nat.le_refl _) (fun pc L hd => ax_iret rfl hd rfl) hf)
theorem w_C_swap_L50 {l : Launch} {E : EN} {R : Room} {B : (Nat × Nat) × (Nat × Nat)} {Qf : QF} {h0 : AH} {r : Int32} {hF : AH} (hR1 : 6 ≤ R.frames) (hR2 : 384 ≤ R.locals) (Hr : ∀ (pc : Nat) (L : List (Option Value)), decode mi_C_swap.2.1 pc = .ok (.ireturn, 1) → AW l E mi_C_swap R B Qf pc L [.int r] hF) {y0 : Nat} {y3 : Int32} {y4 : Nat} : ∀ (n : Nat) (z6 : Int32), f_C_swap_L50 h0 y0 y3 y4 n z6 = some (r, hF) → AW l E mi_C_swap R B Qf 50 [some (va_rf (some y0)), none, none, some (.int y3), some (va_rf (some y4)), none, some (.int z6)] [] h0 := by
  intro n
  induction n with
  | zero => intro z6 hf; cases hf
  | succ n ih =>
    intro z6 hf
    rw [f_C_swap_L50] at hf
    refine ax_iload (i := 6) dC_swap_50 rfl ?_
    refine ax_aload (i := 4) (some y4) dC_swap_52 rfl ?_
    replace hf := bd1_s hf
    obtain ⟨x9, e_x9, hf⟩ := hf
    refine ax_getI fl_473 rfl dC_swap_54 e_x9 ?_
    replace hf := ite_c hf
    rcases hf with ⟨hc, hf⟩ | ⟨hc, hf⟩
    · refine ax_icmp_gtT 82 dC_swap_57 (by decide) hc ?_
      refine ax_iconst (-1 : Int32) dC_swap_82 k32_m1 ?_
      cases hf
      exact Hr _ _ dC_swap_83
    · refine ax_icmp_gtF 82 dC_swap_57 (by decide) hc ?_
      refine ax_aload_n (i := 0) (some y0) dC_swap_60 rfl rfl ?_
      replace hf := bd1_s hf
      obtain ⟨r10, e_r10, hf⟩ := hf
      refine ax_getR fl_325 rfl dC_swap_61 e_r10 ?_
      refine ax_iload (i := 6) dC_swap_64 rfl ?_
      refine ax_iload_n (i := 3) dC_swap_66 rfl rfl ?_
      replace hf := bd1_s hf
      obtain ⟨a11, e_d, hf⟩ := hf
      subst e_d
      replace hf := bd1_s hf
      obtain ⟨x12, e_x12, hf⟩ := hf
      obtain ⟨k_e_x12, e_x12⟩ := cv_s e_x12
      refine ax_callV (As := [.int z6, .int y3]) (rest := []) (c_Fi_holds e_x12) ml_617 cm_Fi_holds rfl k_e_x12 (Nat.le_trans (Nat.le_of_ble_eq_true rfl) hR1) (Nat.le_trans (Nat.le_of_ble_eq_true rfl) hR2) rfl rfl (Nat.le_of_ble_eq_true rfl) dC_swap_67 ?_
      replace hf := ite_c hf
      rcases hf with ⟨hc, hf⟩ | ⟨hc, hf⟩
      · refine ax_if_eqT 76 dC_swap_70 (by decide) hc ?_
        refine ax_iinc (i := 6) (z6 + (1 : Int32)) [some (va_rf (some y0)), none, none, some (.int y3), some (va_rf (some y4)), none, some (.int (z6 + (1 : Int32)))] dC_swap_76 rfl (iic k32_1) (Or.inr (c1n rfl)) rfl ?_
        refine ax_goto 50 dC_swap_79 (by decide) ?_
        exact ih (z6 + (1 : Int32)) hf
      · refine ax_if_eqF 76 dC_swap_70 (by decide) hc ?_
        refine ax_iload (i := 6) dC_swap_73 rfl ?_
        cases hf
        exact Hr _ _ dC_swap_75
theorem v_C_swap {l : Launch} {E : EN} {R : Room} {B : (Nat × Nat) × (Nat × Nat)} {Qf : QF} {h0 : AH} {o : Nat} {p1 : Int32} {p2 : Int32} {p3 : Int32} {r : Int32} {hF : AH} (hR1 : 6 ≤ R.frames) (hR2 : 384 ≤ R.locals) (Hr : ∀ (pc : Nat) (L : List (Option Value)), decode mi_C_swap.2.1 pc = .ok (.ireturn, 1) → AW l E mi_C_swap R B Qf pc L [.int r] hF) (hf : f_C_swap h0 o p1 p2 p3 = some (r, hF)) : AW l E mi_C_swap R B Qf 0 [some (va_rf (some o)), some (.int p1), some (.int p2), some (.int p3), none, none, none] [] h0 := by
  unfold f_C_swap at hf
  refine ax_aload_n (i := 0) (some o) dC_swap_0 rfl rfl ?_
  refine ax_iload_n (i := 1) dC_swap_1 rfl rfl ?_
  replace hf := bd1_s hf
  obtain ⟨r1, e_r1, hf⟩ := hf
  obtain ⟨k_e_r1, e_r1⟩ := cv_s e_r1
  refine ax_callV (As := [.int p1]) (rest := []) (c_C_talkNumbered e_r1) ml_499 cm_C_talkNumbered rfl k_e_r1 (Nat.le_trans (Nat.le_of_ble_eq_true rfl) hR1) (Nat.le_trans (Nat.le_of_ble_eq_true rfl) hR2) rfl rfl (Nat.le_of_ble_eq_true rfl) dC_swap_2 ?_
  refine ax_astore (i := 4) (r := r1) [some (va_rf (some o)), some (.int p1), some (.int p2), some (.int p3), some (va_rf r1), none, none] dC_swap_5 (Nat.le_of_ble_eq_true rfl) (Or.inr (c1i rfl)) rfl ?_
  refine ax_aload_n (i := 0) (some o) dC_swap_7 rfl rfl ?_
  refine ax_iload_n (i := 2) dC_swap_8 rfl rfl ?_
  replace hf := bd1_s hf
  obtain ⟨r2, e_r2, hf⟩ := hf
  obtain ⟨k_e_r2, e_r2⟩ := cv_s e_r2
  refine ax_callV (As := [.int p2]) (rest := []) (c_C_talkNumbered e_r2) ml_499 cm_C_talkNumbered rfl k_e_r2 (Nat.le_trans (Nat.le_of_ble_eq_true rfl) hR1) (Nat.le_trans (Nat.le_of_ble_eq_true rfl) hR2) rfl rfl (Nat.le_of_ble_eq_true rfl) dC_swap_9 ?_
  refine ax_astore (i := 5) (r := r2) [some (va_rf (some o)), some (.int p1), some (.int p2), some (.int p3), some (va_rf r1), some (va_rf r2), none] dC_swap_12 (Nat.le_of_ble_eq_true rfl) (Or.inr (c1r rfl)) rfl ?_
  refine ax_aload (i := 4) r1 dC_swap_14 rfl ?_
  replace hf := onl_s hf
  rcases hf with ⟨e_d, hf⟩ | ⟨a3, e_d, hf⟩
  · subst e_d
    refine ax_ifnullT 33 dC_swap_16 (by decide) ?_
    refine ax_bipush (-101 : Int32) dC_swap_33 k8_m101 ?_
    cases hf
    exact Hr _ _ dC_swap_35
  · subst e_d
    refine ax_ifnullF dC_swap_16 ?_
    refine ax_aload (i := 5) r2 dC_swap_19 rfl ?_
    replace hf := onl_s hf
    rcases hf with ⟨e_d, hf⟩ | ⟨a4, e_d, hf⟩
    · subst e_d
      refine ax_ifnullT 33 dC_swap_21 (by decide) ?_
      refine ax_bipush (-101 : Int32) dC_swap_33 k8_m101 ?_
      cases hf
      exact Hr _ _ dC_swap_35
    · subst e_d
      refine ax_ifnullF dC_swap_21 ?_
      refine ax_aload (i := 5) (some a4) dC_swap_24 rfl ?_
      refine ax_iload_n (i := 3) dC_swap_26 rfl rfl ?_
      replace hf := bd1_s hf
      obtain ⟨x5, e_x5, hf⟩ := hf
      obtain ⟨k_e_x5, e_x5⟩ := cv_s e_x5
      refine ax_callV (As := [.int p3]) (rest := []) (c_Ta_has e_x5) ml_507 cm_Ta_has rfl k_e_x5 (Nat.le_trans (Nat.le_of_ble_eq_true rfl) hR1) (Nat.le_trans (Nat.le_of_ble_eq_true rfl) hR2) rfl rfl (Nat.le_of_ble_eq_true rfl) dC_swap_27 ?_
      replace hf := ite_c hf
      rcases hf with ⟨hc, hf⟩ | ⟨hc, hf⟩
      · refine ax_if_neF 36 dC_swap_30 (by decide) hc ?_
        refine ax_bipush (-101 : Int32) dC_swap_33 k8_m101 ?_
        cases hf
        exact Hr _ _ dC_swap_35
      · refine ax_if_neT 36 dC_swap_30 (by decide) hc ?_
        refine ax_aload_n (i := 0) (some o) dC_swap_36 rfl rfl ?_
        replace hf := bd1_s hf
        obtain ⟨r6, e_r6, hf⟩ := hf
        refine ax_getR fl_325 rfl dC_swap_37 e_r6 ?_
        refine ax_aload (i := 4) (some a3) dC_swap_40 rfl ?_
        refine ax_aload (i := 5) (some a4) dC_swap_42 rfl ?_
        replace hf := bd1_s hf
        obtain ⟨a7, e_d, hf⟩ := hf
        subst e_d
        replace hf := bd1_s hf
        obtain ⟨h8, e_h8, hf⟩ := hf
        obtain ⟨k_e_h8, e_h8⟩ := cv_s e_h8
        refine ax_callV (As := [va_rf (some a3), va_rf (some a4)]) (rest := []) (c_Fi_compare e_h8) ml_593 cm_Fi_compare rfl k_e_h8 (Nat.le_trans (Nat.le_of_ble_eq_true rfl) hR1) (Nat.le_trans (Nat.le_of_ble_eq_true rfl) hR2) rfl rfl (Nat.le_of_ble_eq_true rfl) dC_swap_44 ?_
        refine ax_iconst (0 : Int32) dC_swap_47 k32_0 ?_
        refine ax_istore (i := 6) [some (va_rf (some o)), some (.int p1), some (.int p2), some (.int p3), some (va_rf (some a3)), some (va_rf (some a4)), some (.int (0 : Int32))] dC_swap_48 (Nat.le_of_ble_eq_true rfl) (Or.inr (c1r rfl)) rfl ?_
        refine ax_mask [true, false, false, true, true, false, true] rfl [some (va_rf (some o)), none, none, some (.int p3), some (va_rf (some a3)), none, some (.int (0 : Int32))] rfl ?_
        refine w_C_swap_L50 hR1 hR2 Hr FU (0 : Int32) hf
theorem c_C_swap {l : Launch} {E : EN} {h0 : AH} {o : Nat} {p1 : Int32} {p2 : Int32} {p3 : Int32} {r : Int32} {hF : AH} (hf : f_C_swap h0 o p1 p2 p3 = some (r, hF)) : AM l E 6 mi_C_swap [va_rf (some o), .int p1, .int p2, .int p3] h0 (some (.int r)) hF :=
  am_of2 [(va_rf (some o), false), (.int p1, false), (.int p2, false), (.int p3, false)] 3 ⟨cat_rf _, rfl, rfl, rfl, trivial⟩ rfl rfl (v_C_swap (Nat.le_refl _) (Nat.le_refl _) (fun pc L hd => ax_iret rfl hd rfl) hf)
theorem v_Ta_messages {l : Launch} {E : EN} {R : Room} {B : (Nat × Nat) × (Nat × Nat)} {Qf : QF} {h0 : AH} {o : Nat} {r : Int32} (hR1 : 2 ≤ R.frames) (hR2 : 128 ≤ R.locals) (Hr : ∀ (pc : Nat) (L : List (Option Value)), decode mi_Ta_messages.2.1 pc = .ok (.ireturn, 1) → AW l E mi_Ta_messages R B Qf pc L [.int r] h0) (hf : f_Ta_messages h0 o = some r) : AW l E mi_Ta_messages R B Qf 0 [some (va_rf (some o))] [] h0 := by
  unfold f_Ta_messages at hf
  refine ax_aload_n (i := 0) (some o) dTa_messages_0 rfl rfl ?_
  refine ax_iconst (0 : Int32) dTa_messages_1 k32_0 ?_
  replace hf := bd1_s hf
  obtain ⟨x1, e_x1, hf⟩ := hf
  obtain ⟨k_e_x1, e_x1⟩ := cv_s e_x1
  refine ax_callV (As := [.int (0 : Int32)]) (rest := []) (c_Ta_messagesOf e_x1) ml_634 cm_Ta_messagesOf rfl k_e_x1 (Nat.le_trans (Nat.le_of_ble_eq_true rfl) hR1) (Nat.le_trans (Nat.le_of_ble_eq_true rfl) hR2) rfl rfl (Nat.le_of_ble_eq_true rfl) dTa_messages_2 ?_
  refine ax_aload_n (i := 0) (some o) dTa_messages_5 rfl rfl ?_
  refine ax_iconst (1 : Int32) dTa_messages_6 k32_1 ?_
  replace hf := bd1_s hf
  obtain ⟨x2, e_x2, hf⟩ := hf
  obtain ⟨k_e_x2, e_x2⟩ := cv_s e_x2
  refine ax_callV (As := [.int (1 : Int32)]) (rest := [.int x1]) (c_Ta_messagesOf e_x2) ml_634 cm_Ta_messagesOf rfl k_e_x2 (Nat.le_trans (Nat.le_of_ble_eq_true rfl) hR1) (Nat.le_trans (Nat.le_of_ble_eq_true rfl) hR2) rfl rfl (Nat.le_of_ble_eq_true rfl) dTa_messages_7 ?_
  refine ax_ior dTa_messages_10 ?_
  cases hf
  exact Hr _ _ dTa_messages_11
theorem c_Ta_messages {l : Launch} {E : EN} {h0 : AH} {o : Nat} {r : Int32} (hf : f_Ta_messages h0 o = some r) : AM l E 2 mi_Ta_messages [va_rf (some o)] h0 (some (.int r)) h0 :=
  am_of2 [(va_rf (some o), false)] 0 ⟨cat_rf _, trivial⟩ rfl rfl (v_Ta_messages (Nat.le_refl _) (Nat.le_refl _) (fun pc L hd => ax_iret rfl hd rfl) hf)
theorem v_jI_bitCount {l : Launch} {E : EN} {R : Room} {B : (Nat × Nat) × (Nat × Nat)} {Qf : QF} {h0 : AH} {p1 : Int32} {r : Int32} (hR1 : 1 ≤ R.frames) (hR2 : 64 ≤ R.locals) (Hr : ∀ (pc : Nat) (L : List (Option Value)), decode mi_jI_bitCount.2.1 pc = .ok (.ireturn, 1) → AW l E mi_jI_bitCount R B Qf pc L [.int r] h0) (hf : f_jI_bitCount h0 p1 = some r) : AW l E mi_jI_bitCount R B Qf 0 [some (.int p1)] [] h0 := by
  unfold f_jI_bitCount at hf
  refine ax_iload_n (i := 0) djI_bitCount_0 rfl rfl ?_
  refine ax_iload_n (i := 0) djI_bitCount_1 rfl rfl ?_
  refine ax_iconst (1 : Int32) djI_bitCount_2 k32_1 ?_
  refine ax_iushr djI_bitCount_3 ?_
  refine ax_ldcw w_638 djI_bitCount_4 ?_
  refine ax_iand djI_bitCount_7 ?_
  refine ax_isub djI_bitCount_8 ?_
  replace hf := bd1_s hf
  obtain ⟨x1, e_x1, hf⟩ := hf
  refine ax_nmI (Option.some.inj e_x1) ?_
  refine ax_istore_n (i := 0) [some (.int x1)] djI_bitCount_9 rfl (Nat.le_of_ble_eq_true rfl) (Or.inl rfl) rfl ?_
  refine ax_iload_n (i := 0) djI_bitCount_10 rfl rfl ?_
  refine ax_ldcw w_639 djI_bitCount_11 ?_
  refine ax_iand djI_bitCount_14 ?_
  refine ax_iload_n (i := 0) djI_bitCount_15 rfl rfl ?_
  refine ax_iconst (2 : Int32) djI_bitCount_16 k32_2 ?_
  refine ax_iushr djI_bitCount_17 ?_
  refine ax_ldcw w_639 djI_bitCount_18 ?_
  refine ax_iand djI_bitCount_21 ?_
  refine ax_iadd djI_bitCount_22 ?_
  replace hf := bd1_s hf
  obtain ⟨x2, e_x2, hf⟩ := hf
  refine ax_nmI (Option.some.inj e_x2) ?_
  refine ax_istore_n (i := 0) [some (.int x2)] djI_bitCount_23 rfl (Nat.le_of_ble_eq_true rfl) (Or.inl rfl) rfl ?_
  refine ax_iload_n (i := 0) djI_bitCount_24 rfl rfl ?_
  refine ax_iload_n (i := 0) djI_bitCount_25 rfl rfl ?_
  refine ax_iconst (4 : Int32) djI_bitCount_26 k32_4 ?_
  refine ax_iushr djI_bitCount_27 ?_
  refine ax_iadd djI_bitCount_28 ?_
  refine ax_ldcw w_640 djI_bitCount_29 ?_
  refine ax_iand djI_bitCount_32 ?_
  replace hf := bd1_s hf
  obtain ⟨x3, e_x3, hf⟩ := hf
  refine ax_nmI (Option.some.inj e_x3) ?_
  refine ax_istore_n (i := 0) [some (.int x3)] djI_bitCount_33 rfl (Nat.le_of_ble_eq_true rfl) (Or.inl rfl) rfl ?_
  refine ax_iload_n (i := 0) djI_bitCount_34 rfl rfl ?_
  refine ax_iload_n (i := 0) djI_bitCount_35 rfl rfl ?_
  refine ax_bipush (8 : Int32) djI_bitCount_36 k8_8 ?_
  refine ax_iushr djI_bitCount_38 ?_
  refine ax_iadd djI_bitCount_39 ?_
  replace hf := bd1_s hf
  obtain ⟨x4, e_x4, hf⟩ := hf
  refine ax_nmI (Option.some.inj e_x4) ?_
  refine ax_istore_n (i := 0) [some (.int x4)] djI_bitCount_40 rfl (Nat.le_of_ble_eq_true rfl) (Or.inl rfl) rfl ?_
  refine ax_iload_n (i := 0) djI_bitCount_41 rfl rfl ?_
  refine ax_iload_n (i := 0) djI_bitCount_42 rfl rfl ?_
  refine ax_bipush (16 : Int32) djI_bitCount_43 k8_16 ?_
  refine ax_iushr djI_bitCount_45 ?_
  refine ax_iadd djI_bitCount_46 ?_
  replace hf := bd1_s hf
  obtain ⟨x5, e_x5, hf⟩ := hf
  refine ax_nmI (Option.some.inj e_x5) ?_
  refine ax_istore_n (i := 0) [some (.int x5)] djI_bitCount_47 rfl (Nat.le_of_ble_eq_true rfl) (Or.inl rfl) rfl ?_
  refine ax_iload_n (i := 0) djI_bitCount_48 rfl rfl ?_
  refine ax_bipush (63 : Int32) djI_bitCount_49 k8_63 ?_
  refine ax_iand djI_bitCount_51 ?_
  cases hf
  exact Hr _ _ djI_bitCount_52
theorem c_jI_bitCount {l : Launch} {E : EN} {h0 : AH} {p1 : Int32} {r : Int32} (hf : f_jI_bitCount h0 p1 = some r) : AM l E 1 mi_jI_bitCount [.int p1] h0 (some (.int r)) h0 :=
  am_of2 [(.int p1, false)] 0 ⟨rfl, trivial⟩ rfl rfl (v_jI_bitCount (Nat.le_refl _) (Nat.le_refl _) (fun pc L hd => ax_iret rfl hd rfl) hf)
theorem v_C_adaptingRefusal {l : Launch} {E : EN} {R : Room} {B : (Nat × Nat) × (Nat × Nat)} {Qf : QF} {h0 : AH} {o : Nat} {p1 : Int32} {p2 : Int32} {p3 : Int32} {r : Int32} (hR1 : 3 ≤ R.frames) (hR2 : 192 ≤ R.locals) (Hr : ∀ (pc : Nat) (L : List (Option Value)), decode mi_C_adaptingRefusal.2.1 pc = .ok (.ireturn, 1) → AW l E mi_C_adaptingRefusal R B Qf pc L [.int r] h0) (hf : f_C_adaptingRefusal h0 o p1 p2 p3 = some r) : AW l E mi_C_adaptingRefusal R B Qf 0 [some (va_rf (some o)), some (.int p1), some (.int p2), some (.int p3), none] [] h0 := by
  unfold f_C_adaptingRefusal at hf
  refine ax_aload_n (i := 0) (some o) dC_adaptingRefusal_0 rfl rfl ?_
  refine ax_iload_n (i := 1) dC_adaptingRefusal_1 rfl rfl ?_
  replace hf := bd1_s hf
  obtain ⟨r1, e_r1, hf⟩ := hf
  obtain ⟨k_e_r1, e_r1⟩ := cv_s e_r1
  refine ax_callV (As := [.int p1]) (rest := []) (c_C_talkNumbered e_r1) ml_499 cm_C_talkNumbered rfl k_e_r1 (Nat.le_trans (Nat.le_of_ble_eq_true rfl) hR1) (Nat.le_trans (Nat.le_of_ble_eq_true rfl) hR2) rfl rfl (Nat.le_of_ble_eq_true rfl) dC_adaptingRefusal_2 ?_
  refine ax_astore (i := 4) (r := r1) [some (va_rf (some o)), some (.int p1), some (.int p2), some (.int p3), some (va_rf r1)] dC_adaptingRefusal_5 (Nat.le_of_ble_eq_true rfl) (Or.inr (c1i rfl)) rfl ?_
  refine ax_aload (i := 4) r1 dC_adaptingRefusal_7 rfl ?_
  replace hf := onl_s hf
  rcases hf with ⟨e_d, hf⟩ | ⟨a2, e_d, hf⟩
  · subst e_d
    refine ax_ifnullT 20 dC_adaptingRefusal_9 (by decide) ?_
    refine ax_bipush (-101 : Int32) dC_adaptingRefusal_20 k8_m101 ?_
    cases hf
    exact Hr _ _ dC_adaptingRefusal_22
  · subst e_d
    refine ax_ifnullF dC_adaptingRefusal_9 ?_
    refine ax_aload_n (i := 0) (some o) dC_adaptingRefusal_12 rfl rfl ?_
    refine ax_iload_n (i := 2) dC_adaptingRefusal_13 rfl rfl ?_
    replace hf := bd1_s hf
    obtain ⟨r3, e_r3, hf⟩ := hf
    obtain ⟨k_e_r3, e_r3⟩ := cv_s e_r3
    refine ax_callV (As := [.int p2]) (rest := []) (c_C_talkNumbered e_r3) ml_499 cm_C_talkNumbered rfl k_e_r3 (Nat.le_trans (Nat.le_of_ble_eq_true rfl) hR1) (Nat.le_trans (Nat.le_of_ble_eq_true rfl) hR2) rfl rfl (Nat.le_of_ble_eq_true rfl) dC_adaptingRefusal_14 ?_
    replace hf := onl_s hf
    rcases hf with ⟨e_d, hf⟩ | ⟨a4, e_d, hf⟩
    · subst e_d
      refine ax_ifnonnullF dC_adaptingRefusal_17 ?_
      refine ax_bipush (-101 : Int32) dC_adaptingRefusal_20 k8_m101 ?_
      cases hf
      exact Hr _ _ dC_adaptingRefusal_22
    · subst e_d
      refine ax_ifnonnullT 23 dC_adaptingRefusal_17 (by decide) ?_
      refine ax_aload (i := 4) (some a2) dC_adaptingRefusal_23 rfl ?_
      replace hf := bd1_s hf
      obtain ⟨x5, e_x5, hf⟩ := hf
      obtain ⟨k_e_x5, e_x5⟩ := cv_s e_x5
      refine ax_callV (As := []) (rest := []) (c_Ta_messages e_x5) ml_630 cm_Ta_messages rfl k_e_x5 (Nat.le_trans (Nat.le_of_ble_eq_true rfl) hR1) (Nat.le_trans (Nat.le_of_ble_eq_true rfl) hR2) rfl rfl (Nat.le_of_ble_eq_true rfl) dC_adaptingRefusal_25 ?_
      replace hf := bd1_s hf
      obtain ⟨x6, e_x6, hf⟩ := hf
      refine ax_callS (As := [.int x5]) (rest := []) (c_jI_bitCount e_x6) ml_635 cm_jI_bitCount (Nat.le_trans (Nat.le_of_ble_eq_true rfl) hR1) (Nat.le_trans (Nat.le_of_ble_eq_true rfl) hR2) rfl rfl (Nat.le_of_ble_eq_true rfl) dC_adaptingRefusal_28 ?_
      refine ax_iconst (5 : Int32) dC_adaptingRefusal_31 k32_5 ?_
      replace hf := ite_c hf
      rcases hf with ⟨hc, hf⟩ | ⟨hc, hf⟩
      · refine ax_icmp_gtT 42 dC_adaptingRefusal_32 (by decide) hc ?_
        refine ax_bipush (-102 : Int32) dC_adaptingRefusal_42 k8_m102 ?_
        cases hf
        exact Hr _ _ dC_adaptingRefusal_44
      · refine ax_icmp_gtF 42 dC_adaptingRefusal_32 (by decide) hc ?_
        refine ax_iload_n (i := 3) dC_adaptingRefusal_35 rfl rfl ?_
        replace hf := bd1_s hf
        obtain ⟨x7, e_x7, hf⟩ := hf
        refine ax_callS (As := [.int p3]) (rest := []) (c_C_isMessage e_x7) ml_514 cm_C_isMessage (Nat.le_trans (Nat.le_of_ble_eq_true rfl) hR1) (Nat.le_trans (Nat.le_of_ble_eq_true rfl) hR2) rfl rfl (Nat.le_of_ble_eq_true rfl) dC_adaptingRefusal_36 ?_
        replace hf := ite_c hf
        rcases hf with ⟨hc, hf⟩ | ⟨hc, hf⟩
        · refine ax_if_neF 45 dC_adaptingRefusal_39 (by decide) hc ?_
          refine ax_bipush (-102 : Int32) dC_adaptingRefusal_42 k8_m102 ?_
          cases hf
          exact Hr _ _ dC_adaptingRefusal_44
        · refine ax_if_neT 45 dC_adaptingRefusal_39 (by decide) hc ?_
          refine ax_aload_n (i := 0) (some o) dC_adaptingRefusal_45 rfl rfl ?_
          replace hf := bd1_s hf
          obtain ⟨x8, e_x8, hf⟩ := hf
          refine ax_getI fl_328 rfl dC_adaptingRefusal_46 e_x8 ?_
          refine ax_bipush (20 : Int32) dC_adaptingRefusal_49 k8_20 ?_
          replace hf := ite_c hf
          rcases hf with ⟨hc, hf⟩ | ⟨hc, hf⟩
          · refine ax_icmp_ltT 59 dC_adaptingRefusal_51 (by decide) hc ?_
            refine ax_iconst (0 : Int32) dC_adaptingRefusal_59 k32_0 ?_
            cases hf
            exact Hr _ _ dC_adaptingRefusal_60
          · refine ax_icmp_ltF 59 dC_adaptingRefusal_51 (by decide) hc ?_
            refine ax_bipush (-103 : Int32) dC_adaptingRefusal_54 k8_m103 ?_
            refine ax_goto 60 dC_adaptingRefusal_56 (by decide) ?_
            cases hf
            exact Hr _ _ dC_adaptingRefusal_60
theorem c_C_adaptingRefusal {l : Launch} {E : EN} {h0 : AH} {o : Nat} {p1 : Int32} {p2 : Int32} {p3 : Int32} {r : Int32} (hf : f_C_adaptingRefusal h0 o p1 p2 p3 = some r) : AM l E 3 mi_C_adaptingRefusal [va_rf (some o), .int p1, .int p2, .int p3] h0 (some (.int r)) h0 :=
  am_of2 [(va_rf (some o), false), (.int p1, false), (.int p2, false), (.int p3, false)] 1 ⟨cat_rf _, rfl, rfl, rfl, trivial⟩ rfl rfl (v_C_adaptingRefusal (Nat.le_refl _) (Nat.le_refl _) (fun pc L hd => ax_iret rfl hd rfl) hf)
theorem v_Ad_reach {l : Launch} {E : EN} {R : Room} {B : (Nat × Nat) × (Nat × Nat)} {Qf : QF} {h0 : AH} {o : Nat} {p1 : Int32} {p2 : Int32} {hF : AH} (hR1 : 2 ≤ R.frames) (hR2 : 128 ≤ R.locals) (Hr : ∀ (pc : Nat) (L : List (Option Value)), decode mi_Ad_reach.2.1 pc = .ok (.return_, 1) → AW l E mi_Ad_reach R B Qf pc L [] hF) (hf : f_Ad_reach h0 o p1 p2 = some hF) : AW l E mi_Ad_reach R B Qf 0 [some (va_rf (some o)), some (.int p1), some (.int p2)] [] h0 := by
  unfold f_Ad_reach at hf
  refine ax_aload_n (i := 0) (some o) dAd_reach_0 rfl rfl ?_
  replace hf := bd1_s hf
  obtain ⟨r1, e_r1, hf⟩ := hf
  refine ax_getR fl_182 rfl dAd_reach_1 e_r1 ?_
  refine ax_iload_n (i := 1) dAd_reach_4 rfl rfl ?_
  replace hf := bd1_s hf
  obtain ⟨a2, e_d, hf⟩ := hf
  subst e_d
  replace hf := bd1_s hf
  obtain ⟨x3, e_x3, hf⟩ := hf
  refine ax_iald dAd_reach_5 e_x3 ?_
  refine ax_iload_n (i := 2) dAd_reach_6 rfl rfl ?_
  replace hf := bd1_s hf
  obtain ⟨x4, e_x4, hf⟩ := hf
  refine ax_callS (As := [.int x3, .int p2]) (rest := []) (c_C_hasBit e_x4) ml_651 cm_C_hasBit (Nat.le_trans (Nat.le_of_ble_eq_true rfl) hR1) (Nat.le_trans (Nat.le_of_ble_eq_true rfl) hR2) rfl rfl (Nat.le_of_ble_eq_true rfl) dAd_reach_7 ?_
  replace hf := ite_c hf
  rcases hf with ⟨hc, hf⟩ | ⟨hc, hf⟩
  · refine ax_if_neF 59 dAd_reach_10 (by decide) hc ?_
    refine ax_aload_n (i := 0) (some o) dAd_reach_13 rfl rfl ?_
    replace hf := bd1_s hf
    obtain ⟨x5, e_x5, hf⟩ := hf
    refine ax_getI fl_184 rfl dAd_reach_14 e_x5 ?_
    refine ax_sipush (625 : Int32) dAd_reach_17 k16_625 ?_
    replace hf := ite_c hf
    rcases hf with ⟨hc, hf⟩ | ⟨hc, hf⟩
    · refine ax_icmp_geF 59 dAd_reach_20 (by decide) hc ?_
      refine ax_aload_n (i := 0) (some o) dAd_reach_23 rfl rfl ?_
      replace hf := bd1_s hf
      obtain ⟨r6, e_r6, hf⟩ := hf
      refine ax_getR fl_182 rfl dAd_reach_24 e_r6 ?_
      refine ax_iload_n (i := 1) dAd_reach_27 rfl rfl ?_
      refine ax_dup2 dAd_reach_28 rfl (cat_rf _) ?_
      replace hf := bd1_s hf
      obtain ⟨a7, e_d, hf⟩ := hf
      subst e_d
      replace hf := bd1_s hf
      obtain ⟨x8, e_x8, hf⟩ := hf
      refine ax_iald dAd_reach_29 e_x8 ?_
      refine ax_iconst (1 : Int32) dAd_reach_30 k32_1 ?_
      refine ax_iload_n (i := 2) dAd_reach_31 rfl rfl ?_
      refine ax_ishl dAd_reach_32 ?_
      refine ax_ior dAd_reach_33 ?_
      replace hf := bd1_s hf
      obtain ⟨h9, e_h9, hf⟩ := hf
      refine ax_iast dAd_reach_34 e_h9 ?_
      refine ax_aload_n (i := 0) (some o) dAd_reach_35 rfl rfl ?_
      replace hf := bd1_s hf
      obtain ⟨r10, e_r10, hf⟩ := hf
      refine ax_getR fl_183 rfl dAd_reach_36 e_r10 ?_
      refine ax_aload_n (i := 0) (some o) dAd_reach_39 rfl rfl ?_
      replace hf := bd1_s hf
      obtain ⟨x11, e_x11, hf⟩ := hf
      refine ax_getI fl_184 rfl dAd_reach_40 e_x11 ?_
      refine ax_iload_n (i := 1) dAd_reach_43 rfl rfl ?_
      refine ax_iload_n (i := 2) dAd_reach_44 rfl rfl ?_
      refine ax_iconst (5 : Int32) dAd_reach_45 k32_5 ?_
      refine ax_ishl dAd_reach_46 ?_
      refine ax_ior dAd_reach_47 ?_
      replace hf := bd1_s hf
      obtain ⟨a12, e_d, hf⟩ := hf
      subst e_d
      replace hf := bd1_s hf
      obtain ⟨h13, e_h13, hf⟩ := hf
      refine ax_iast dAd_reach_48 e_h13 ?_
      refine ax_aload_n (i := 0) (some o) dAd_reach_49 rfl rfl ?_
      refine ax_dup dAd_reach_50 rfl ?_
      replace hf := bd1_s hf
      obtain ⟨x14, e_x14, hf⟩ := hf
      refine ax_getI fl_184 rfl dAd_reach_51 e_x14 ?_
      refine ax_iconst (1 : Int32) dAd_reach_54 k32_1 ?_
      refine ax_iadd dAd_reach_55 ?_
      replace hf := bd1_s hf
      obtain ⟨h15, e_h15, hf⟩ := hf
      refine ax_putI fw_184 rfl rfl dAd_reach_56 e_h15 ?_
      cases hf
      exact Hr _ _ dAd_reach_59
    · refine ax_icmp_geT 59 dAd_reach_20 (by decide) hc ?_
      cases hf
      exact Hr _ _ dAd_reach_59
  · refine ax_if_neT 59 dAd_reach_10 (by decide) hc ?_
    cases hf
    exact Hr _ _ dAd_reach_59
theorem c_Ad_reach {l : Launch} {E : EN} {h0 : AH} {o : Nat} {p1 : Int32} {p2 : Int32} {hF : AH} (hf : f_Ad_reach h0 o p1 p2 = some hF) : AM l E 2 mi_Ad_reach [va_rf (some o), .int p1, .int p2] h0 none hF :=
  am_of2 [(va_rf (some o), false), (.int p1, false), (.int p2, false)] 0 ⟨cat_rf _, rfl, rfl, trivial⟩ rfl rfl (v_Ad_reach (Nat.le_refl _) (Nat.le_refl _) (fun pc L hd => ax_vret rfl hd rfl) hf)
theorem w_Ad_agreeAt_L17 {l : Launch} {E : EN} {R : Room} {B : (Nat × Nat) × (Nat × Nat)} {Qf : QF} {h0 : AH} {ρ : Type} {res : ρ} (hR1 : 2 ≤ R.frames) (hR2 : 128 ≤ R.locals) {y0 : Nat} {y1 : Int32} {y2 : Int32} {k : Int32 → Int32 → Int32 → Int32 → Int32 → Option (ρ)} (hk : ∀ (z3 : Int32) (z4 : Int32) (z5 : Int32) (z6 : Int32) (z7 : Int32), k z3 z4 z5 z6 z7 = some res → AW l E mi_Ad_agreeAt R B Qf 143 [some (va_rf (some y0)), some (.int y1), some (.int y2), some (.int z3), some (.int z4), some (.int z5), some (.int z6), some (.int z7), none, none, none, none] [] h0) : ∀ (n : Nat) (z3 : Int32) (z4 : Int32) (z5 : Int32) (z6 : Int32) (z7 : Int32) (z8 : Int32), f_Ad_agreeAt_L17 h0 y0 y1 y2 k n z3 z4 z5 z6 z7 z8 = some res → AW l E mi_Ad_agreeAt R B Qf 17 [some (va_rf (some y0)), some (.int y1), some (.int y2), some (.int z3), some (.int z4), some (.int z5), some (.int z6), some (.int z7), some (.int z8), none, none, none] [] h0 := by
  intro n
  induction n with
  | zero => intro z3 z4 z5 z6 z7 z8 hf; cases hf
  | succ n ih =>
    intro z3 z4 z5 z6 z7 z8 hf
    rw [f_Ad_agreeAt_L17] at hf
    refine ax_iload (i := 8) dAd_agreeAt_17 rfl ?_
    refine ax_aload_n (i := 0) (some y0) dAd_agreeAt_19 rfl rfl ?_
    replace hf := bd1_s hf
    obtain ⟨x1, e_x1, hf⟩ := hf
    refine ax_getI fl_179 rfl dAd_agreeAt_20 e_x1 ?_
    replace hf := ite_c hf
    rcases hf with ⟨hc, hf⟩ | ⟨hc, hf⟩
    · refine ax_icmp_geF 143 dAd_agreeAt_23 (by decide) hc ?_
      refine ax_aload_n (i := 0) (some y0) dAd_agreeAt_26 rfl rfl ?_
      replace hf := bd1_s hf
      obtain ⟨r2, e_r2, hf⟩ := hf
      refine ax_getR fl_178 rfl dAd_agreeAt_27 e_r2 ?_
      refine ax_iload (i := 8) dAd_agreeAt_30 rfl ?_
      replace hf := bd1_s hf
      obtain ⟨a3, e_d, hf⟩ := hf
      subst e_d
      replace hf := bd1_s hf
      obtain ⟨x4, e_x4, hf⟩ := hf
      refine ax_iald dAd_agreeAt_32 e_x4 ?_
      refine ax_istore (i := 9) [some (va_rf (some y0)), some (.int y1), some (.int y2), some (.int z3), some (.int z4), some (.int z5), some (.int z6), some (.int z7), some (.int z8), some (.int x4), none, none] dAd_agreeAt_33 (Nat.le_of_ble_eq_true rfl) (Or.inr (c1i rfl)) rfl ?_
      refine ax_aload_n (i := 0) (some y0) dAd_agreeAt_35 rfl rfl ?_
      replace hf := bd1_s hf
      obtain ⟨r5, e_r5, hf⟩ := hf
      refine ax_getR fl_176 rfl dAd_agreeAt_36 e_r5 ?_
      replace hf := bd1_s hf
      obtain ⟨a6, e_d, hf⟩ := hf
      subst e_d
      replace hf := bd1_s hf
      obtain ⟨r7, e_r7, hf⟩ := hf
      refine ax_getR fl_483 rfl dAd_agreeAt_39 e_r7 ?_
      refine ax_iload_n (i := 1) dAd_agreeAt_42 rfl rfl ?_
      replace hf := bd1_s hf
      obtain ⟨a8, e_d, hf⟩ := hf
      subst e_d
      replace hf := bd1_s hf
      obtain ⟨x9, e_x9, hf⟩ := hf
      refine ax_iald dAd_agreeAt_43 e_x9 ?_
      refine ax_iload (i := 9) dAd_agreeAt_44 rfl ?_
      refine ax_ishr dAd_agreeAt_46 ?_
      refine ax_iconst (1 : Int32) dAd_agreeAt_47 k32_1 ?_
      refine ax_iand dAd_agreeAt_48 ?_
      replace hf := bd1_s hf
      obtain ⟨x10, e_x10, hf⟩ := hf
      refine ax_nmI (Option.some.inj e_x10) ?_
      refine ax_istore (i := 10) [some (va_rf (some y0)), some (.int y1), some (.int y2), some (.int z3), some (.int z4), some (.int z5), some (.int z6), some (.int z7), some (.int z8), some (.int x4), some (.int x10), none] dAd_agreeAt_49 (Nat.le_of_ble_eq_true rfl) (Or.inr (c1i rfl)) rfl ?_
      refine ax_aload_n (i := 0) (some y0) dAd_agreeAt_51 rfl rfl ?_
      replace hf := bd1_s hf
      obtain ⟨r11, e_r11, hf⟩ := hf
      refine ax_getR fl_176 rfl dAd_agreeAt_52 e_r11 ?_
      replace hf := bd1_s hf
      obtain ⟨a12, e_d, hf⟩ := hf
      subst e_d
      replace hf := bd1_s hf
      obtain ⟨r13, e_r13, hf⟩ := hf
      refine ax_getR fl_479 rfl dAd_agreeAt_55 e_r13 ?_
      refine ax_iload_n (i := 1) dAd_agreeAt_58 rfl rfl ?_
      replace hf := bd1_s hf
      obtain ⟨a14, e_d, hf⟩ := hf
      subst e_d
      replace hf := bd1_s hf
      obtain ⟨x15, e_x15, hf⟩ := hf
      refine ax_iald dAd_agreeAt_59 e_x15 ?_
      refine ax_iload (i := 9) dAd_agreeAt_60 rfl ?_
      refine ax_ishr dAd_agreeAt_62 ?_
      refine ax_iconst (1 : Int32) dAd_agreeAt_63 k32_1 ?_
      refine ax_iand dAd_agreeAt_64 ?_
      replace hf := bd1_s hf
      obtain ⟨x16, e_x16, hf⟩ := hf
      refine ax_nmI (Option.some.inj e_x16) ?_
      refine ax_istore (i := 11) [some (va_rf (some y0)), some (.int y1), some (.int y2), some (.int z3), some (.int z4), some (.int z5), some (.int z6), some (.int z7), some (.int z8), some (.int x4), some (.int x10), some (.int x16)] dAd_agreeAt_65 (Nat.le_of_ble_eq_true rfl) (Or.inr (c1i rfl)) rfl ?_
      refine ax_aload_n (i := 0) (some y0) dAd_agreeAt_67 rfl rfl ?_
      replace hf := bd1_s hf
      obtain ⟨r17, e_r17, hf⟩ := hf
      refine ax_getR fl_180 rfl dAd_agreeAt_68 e_r17 ?_
      refine ax_iload (i := 9) dAd_agreeAt_71 rfl ?_
      replace hf := bd1_s hf
      obtain ⟨a18, e_d, hf⟩ := hf
      subst e_d
      replace hf := bd1_s hf
      obtain ⟨x19, e_x19, hf⟩ := hf
      refine ax_iald dAd_agreeAt_73 e_x19 ?_
      refine ax_iconst (-1 : Int32) dAd_agreeAt_74 k32_m1 ?_
      replace hf := ite_c hf
      rcases hf with ⟨hc, hf⟩ | ⟨hc, hf⟩
      · refine ax_icmp_neF 95 dAd_agreeAt_75 (by decide) hc ?_
        refine ax_iload (i := 5) dAd_agreeAt_78 rfl ?_
        refine ax_iload (i := 10) dAd_agreeAt_80 rfl ?_
        refine ax_iadd dAd_agreeAt_82 ?_
        replace hf := bd1_s hf
        obtain ⟨x32, e_x32, hf⟩ := hf
        refine ax_nmI (Option.some.inj e_x32) ?_
        refine ax_istore (i := 5) [some (va_rf (some y0)), some (.int y1), some (.int y2), some (.int z3), some (.int z4), some (.int x32), some (.int z6), some (.int z7), some (.int z8), some (.int x4), some (.int x10), some (.int x16)] dAd_agreeAt_83 (Nat.le_of_ble_eq_true rfl) (Or.inr (c1i rfl)) rfl ?_
        refine ax_iload (i := 6) dAd_agreeAt_85 rfl ?_
        refine ax_iload (i := 11) dAd_agreeAt_87 rfl ?_
        refine ax_iadd dAd_agreeAt_89 ?_
        replace hf := bd1_s hf
        obtain ⟨x33, e_x33, hf⟩ := hf
        refine ax_nmI (Option.some.inj e_x33) ?_
        refine ax_istore (i := 6) [some (va_rf (some y0)), some (.int y1), some (.int y2), some (.int z3), some (.int z4), some (.int x32), some (.int x33), some (.int z7), some (.int z8), some (.int x4), some (.int x10), some (.int x16)] dAd_agreeAt_90 (Nat.le_of_ble_eq_true rfl) (Or.inr (c1i rfl)) rfl ?_
        refine ax_goto 137 dAd_agreeAt_92 (by decide) ?_
        refine ax_iinc (i := 8) (z8 + (1 : Int32)) [some (va_rf (some y0)), some (.int y1), some (.int y2), some (.int z3), some (.int z4), some (.int x32), some (.int x33), some (.int z7), some (.int (z8 + (1 : Int32))), some (.int x4), some (.int x10), some (.int x16)] dAd_agreeAt_137 rfl (iic k32_1) (Or.inr (c1i rfl)) rfl ?_
        refine ax_goto 17 dAd_agreeAt_140 (by decide) ?_
        refine ax_mask [true, true, true, true, true, true, true, true, true, false, false, false] rfl [some (va_rf (some y0)), some (.int y1), some (.int y2), some (.int z3), some (.int z4), some (.int x32), some (.int x33), some (.int z7), some (.int (z8 + (1 : Int32))), none, none, none] rfl ?_
        exact ih z3 z4 x32 x33 z7 (z8 + (1 : Int32)) hf
      · refine ax_icmp_neT 95 dAd_agreeAt_75 (by decide) hc ?_
        refine ax_iload_n (i := 3) dAd_agreeAt_95 rfl rfl ?_
        refine ax_iload (i := 10) dAd_agreeAt_96 rfl ?_
        refine ax_aload_n (i := 0) (some y0) dAd_agreeAt_98 rfl rfl ?_
        replace hf := bd1_s hf
        obtain ⟨r20, e_r20, hf⟩ := hf
        refine ax_getR fl_180 rfl dAd_agreeAt_99 e_r20 ?_
        refine ax_iload (i := 9) dAd_agreeAt_102 rfl ?_
        replace hf := bd1_s hf
        obtain ⟨a21, e_d, hf⟩ := hf
        subst e_d
        replace hf := bd1_s hf
        obtain ⟨x22, e_x22, hf⟩ := hf
        refine ax_iald dAd_agreeAt_104 e_x22 ?_
        refine ax_ishl dAd_agreeAt_105 ?_
        refine ax_ior dAd_agreeAt_106 ?_
        replace hf := bd1_s hf
        obtain ⟨x23, e_x23, hf⟩ := hf
        refine ax_nmI (Option.some.inj e_x23) ?_
        refine ax_istore_n (i := 3) [some (va_rf (some y0)), some (.int y1), some (.int y2), some (.int x23), some (.int z4), some (.int z5), some (.int z6), some (.int z7), some (.int z8), some (.int x4), some (.int x10), some (.int x16)] dAd_agreeAt_107 rfl (Nat.le_of_ble_eq_true rfl) (Or.inr (c1i rfl)) rfl ?_
        refine ax_iload (i := 4) dAd_agreeAt_108 rfl ?_
        refine ax_iload (i := 11) dAd_agreeAt_110 rfl ?_
        refine ax_aload_n (i := 0) (some y0) dAd_agreeAt_112 rfl rfl ?_
        replace hf := bd1_s hf
        obtain ⟨r24, e_r24, hf⟩ := hf
        refine ax_getR fl_180 rfl dAd_agreeAt_113 e_r24 ?_
        refine ax_iload (i := 9) dAd_agreeAt_116 rfl ?_
        replace hf := bd1_s hf
        obtain ⟨a25, e_d, hf⟩ := hf
        subst e_d
        replace hf := bd1_s hf
        obtain ⟨x26, e_x26, hf⟩ := hf
        refine ax_iald dAd_agreeAt_118 e_x26 ?_
        refine ax_ishl dAd_agreeAt_119 ?_
        refine ax_ior dAd_agreeAt_120 ?_
        replace hf := bd1_s hf
        obtain ⟨x27, e_x27, hf⟩ := hf
        refine ax_nmI (Option.some.inj e_x27) ?_
        refine ax_istore (i := 4) [some (va_rf (some y0)), some (.int y1), some (.int y2), some (.int x23), some (.int x27), some (.int z5), some (.int z6), some (.int z7), some (.int z8), some (.int x4), some (.int x10), some (.int x16)] dAd_agreeAt_121 (Nat.le_of_ble_eq_true rfl) (Or.inr (c1i rfl)) rfl ?_
        refine ax_iload (i := 7) dAd_agreeAt_123 rfl ?_
        refine ax_iconst (1 : Int32) dAd_agreeAt_125 k32_1 ?_
        refine ax_aload_n (i := 0) (some y0) dAd_agreeAt_126 rfl rfl ?_
        replace hf := bd1_s hf
        obtain ⟨r28, e_r28, hf⟩ := hf
        refine ax_getR fl_180 rfl dAd_agreeAt_127 e_r28 ?_
        refine ax_iload (i := 9) dAd_agreeAt_130 rfl ?_
        replace hf := bd1_s hf
        obtain ⟨a29, e_d, hf⟩ := hf
        subst e_d
        replace hf := bd1_s hf
        obtain ⟨x30, e_x30, hf⟩ := hf
        refine ax_iald dAd_agreeAt_132 e_x30 ?_
        refine ax_ishl dAd_agreeAt_133 ?_
        refine ax_ior dAd_agreeAt_134 ?_
        replace hf := bd1_s hf
        obtain ⟨x31, e_x31, hf⟩ := hf
        refine ax_nmI (Option.some.inj e_x31) ?_
        refine ax_istore (i := 7) [some (va_rf (some y0)), some (.int y1), some (.int y2), some (.int x23), some (.int x27), some (.int z5), some (.int z6), some (.int x31), some (.int z8), some (.int x4), some (.int x10), some (.int x16)] dAd_agreeAt_135 (Nat.le_of_ble_eq_true rfl) (Or.inr (c1i rfl)) rfl ?_
        refine ax_iinc (i := 8) (z8 + (1 : Int32)) [some (va_rf (some y0)), some (.int y1), some (.int y2), some (.int x23), some (.int x27), some (.int z5), some (.int z6), some (.int x31), some (.int (z8 + (1 : Int32))), some (.int x4), some (.int x10), some (.int x16)] dAd_agreeAt_137 rfl (iic k32_1) (Or.inr (c1i rfl)) rfl ?_
        refine ax_goto 17 dAd_agreeAt_140 (by decide) ?_
        refine ax_mask [true, true, true, true, true, true, true, true, true, false, false, false] rfl [some (va_rf (some y0)), some (.int y1), some (.int y2), some (.int x23), some (.int x27), some (.int z5), some (.int z6), some (.int x31), some (.int (z8 + (1 : Int32))), none, none, none] rfl ?_
        exact ih x23 x27 z5 z6 x31 (z8 + (1 : Int32)) hf
    · refine ax_icmp_geT 143 dAd_agreeAt_23 (by decide) hc ?_
      refine ax_mask [true, true, true, true, true, true, true, true, false, true, true, true] rfl [some (va_rf (some y0)), some (.int y1), some (.int y2), some (.int z3), some (.int z4), some (.int z5), some (.int z6), some (.int z7), none, none, none, none] rfl ?_
      exact hk z3 z4 z5 z6 z7 hf
theorem v_Ad_agreeAt {l : Launch} {E : EN} {R : Room} {B : (Nat × Nat) × (Nat × Nat)} {Qf : QF} {h0 : AH} {o : Nat} {p1 : Int32} {p2 : Int32} {r : Int32} (hR1 : 2 ≤ R.frames) (hR2 : 128 ≤ R.locals) (Hr : (r = 0 ∨ r = 1) → ∀ (pc : Nat) (L : List (Option Value)), decode mi_Ad_agreeAt.2.1 pc = .ok (.ireturn, 1) → AW l E mi_Ad_agreeAt R B Qf pc L [.int r] h0) (hf : f_Ad_agreeAt h0 o p1 p2 = some r) : AW l E mi_Ad_agreeAt R B Qf 0 [some (va_rf (some o)), some (.int p1), some (.int p2), none, none, none, none, none, none, none, none, none] [] h0 := by
  unfold f_Ad_agreeAt at hf
  refine ax_iconst (0 : Int32) dAd_agreeAt_0 k32_0 ?_
  refine ax_istore_n (i := 3) [some (va_rf (some o)), some (.int p1), some (.int p2), some (.int (0 : Int32)), none, none, none, none, none, none, none, none] dAd_agreeAt_1 rfl (Nat.le_of_ble_eq_true rfl) (Or.inr (c1i rfl)) rfl ?_
  refine ax_iconst (0 : Int32) dAd_agreeAt_2 k32_0 ?_
  refine ax_istore (i := 4) [some (va_rf (some o)), some (.int p1), some (.int p2), some (.int (0 : Int32)), some (.int (0 : Int32)), none, none, none, none, none, none, none] dAd_agreeAt_3 (Nat.le_of_ble_eq_true rfl) (Or.inr (c1i rfl)) rfl ?_
  refine ax_iconst (0 : Int32) dAd_agreeAt_5 k32_0 ?_
  refine ax_istore (i := 5) [some (va_rf (some o)), some (.int p1), some (.int p2), some (.int (0 : Int32)), some (.int (0 : Int32)), some (.int (0 : Int32)), none, none, none, none, none, none] dAd_agreeAt_6 (Nat.le_of_ble_eq_true rfl) (Or.inr (c1i rfl)) rfl ?_
  refine ax_iconst (0 : Int32) dAd_agreeAt_8 k32_0 ?_
  refine ax_istore (i := 6) [some (va_rf (some o)), some (.int p1), some (.int p2), some (.int (0 : Int32)), some (.int (0 : Int32)), some (.int (0 : Int32)), some (.int (0 : Int32)), none, none, none, none, none] dAd_agreeAt_9 (Nat.le_of_ble_eq_true rfl) (Or.inr (c1i rfl)) rfl ?_
  refine ax_iconst (0 : Int32) dAd_agreeAt_11 k32_0 ?_
  refine ax_istore (i := 7) [some (va_rf (some o)), some (.int p1), some (.int p2), some (.int (0 : Int32)), some (.int (0 : Int32)), some (.int (0 : Int32)), some (.int (0 : Int32)), some (.int (0 : Int32)), none, none, none, none] dAd_agreeAt_12 (Nat.le_of_ble_eq_true rfl) (Or.inr (c1i rfl)) rfl ?_
  refine ax_iconst (0 : Int32) dAd_agreeAt_14 k32_0 ?_
  refine ax_istore (i := 8) [some (va_rf (some o)), some (.int p1), some (.int p2), some (.int (0 : Int32)), some (.int (0 : Int32)), some (.int (0 : Int32)), some (.int (0 : Int32)), some (.int (0 : Int32)), some (.int (0 : Int32)), none, none, none] dAd_agreeAt_15 (Nat.le_of_ble_eq_true rfl) (Or.inr (c1i rfl)) rfl ?_
  refine w_Ad_agreeAt_L17 hR1 hR2 (fun x34 x35 x36 x37 x38 hf => ?_) FU (0 : Int32) (0 : Int32) (0 : Int32) (0 : Int32) (0 : Int32) (0 : Int32) hf
  refine ax_iload_n (i := 3) dAd_agreeAt_143 rfl rfl ?_
  refine ax_aload_n (i := 0) (some o) dAd_agreeAt_144 rfl rfl ?_
  replace hf := bd1_s hf
  obtain ⟨r39, e_r39, hf⟩ := hf
  refine ax_getR fl_177 rfl dAd_agreeAt_145 e_r39 ?_
  replace hf := bd1_s hf
  obtain ⟨a40, e_d, hf⟩ := hf
  subst e_d
  replace hf := bd1_s hf
  obtain ⟨r41, e_r41, hf⟩ := hf
  refine ax_getR fl_479 rfl dAd_agreeAt_148 e_r41 ?_
  refine ax_iload_n (i := 2) dAd_agreeAt_151 rfl rfl ?_
  replace hf := bd1_s hf
  obtain ⟨a42, e_d, hf⟩ := hf
  subst e_d
  replace hf := bd1_s hf
  obtain ⟨x43, e_x43, hf⟩ := hf
  refine ax_iald dAd_agreeAt_152 e_x43 ?_
  refine ax_iconst (-1 : Int32) dAd_agreeAt_153 k32_m1 ?_
  refine ax_ixor dAd_agreeAt_154 ?_
  refine ax_iand dAd_agreeAt_155 ?_
  replace hf := ite_c hf
  rcases hf with ⟨hc, hf⟩ | ⟨hc, hf⟩
  · refine ax_if_neF 179 dAd_agreeAt_156 (by decide) hc ?_
    refine ax_aload_n (i := 0) (some o) dAd_agreeAt_159 rfl rfl ?_
    replace hf := bd1_s hf
    obtain ⟨r44, e_r44, hf⟩ := hf
    refine ax_getR fl_177 rfl dAd_agreeAt_160 e_r44 ?_
    replace hf := bd1_s hf
    obtain ⟨a45, e_d, hf⟩ := hf
    subst e_d
    replace hf := bd1_s hf
    obtain ⟨r46, e_r46, hf⟩ := hf
    refine ax_getR fl_483 rfl dAd_agreeAt_163 e_r46 ?_
    refine ax_iload_n (i := 2) dAd_agreeAt_166 rfl rfl ?_
    replace hf := bd1_s hf
    obtain ⟨a47, e_d, hf⟩ := hf
    subst e_d
    replace hf := bd1_s hf
    obtain ⟨x48, e_x48, hf⟩ := hf
    refine ax_iald dAd_agreeAt_167 e_x48 ?_
    refine ax_iload (i := 7) dAd_agreeAt_168 rfl ?_
    refine ax_iand dAd_agreeAt_170 ?_
    refine ax_iload (i := 4) dAd_agreeAt_171 rfl ?_
    refine ax_iconst (-1 : Int32) dAd_agreeAt_173 k32_m1 ?_
    refine ax_ixor dAd_agreeAt_174 ?_
    refine ax_iand dAd_agreeAt_175 ?_
    replace hf := ite_c hf
    rcases hf with ⟨hc, hf⟩ | ⟨hc, hf⟩
    · refine ax_if_eqT 181 dAd_agreeAt_176 (by decide) hc ?_
      refine ax_iload (i := 5) dAd_agreeAt_181 rfl ?_
      refine ax_aload_n (i := 0) (some o) dAd_agreeAt_183 rfl rfl ?_
      replace hf := bd1_s hf
      obtain ⟨r49, e_r49, hf⟩ := hf
      refine ax_getR fl_177 rfl dAd_agreeAt_184 e_r49 ?_
      replace hf := bd1_s hf
      obtain ⟨a50, e_d, hf⟩ := hf
      subst e_d
      replace hf := bd1_s hf
      obtain ⟨r51, e_r51, hf⟩ := hf
      refine ax_getR fl_479 rfl dAd_agreeAt_187 e_r51 ?_
      refine ax_iload_n (i := 2) dAd_agreeAt_190 rfl rfl ?_
      replace hf := bd1_s hf
      obtain ⟨a52, e_d, hf⟩ := hf
      subst e_d
      replace hf := bd1_s hf
      obtain ⟨x53, e_x53, hf⟩ := hf
      refine ax_iald dAd_agreeAt_191 e_x53 ?_
      refine ax_iload (i := 7) dAd_agreeAt_192 rfl ?_
      refine ax_iconst (-1 : Int32) dAd_agreeAt_194 k32_m1 ?_
      refine ax_ixor dAd_agreeAt_195 ?_
      refine ax_iand dAd_agreeAt_196 ?_
      replace hf := bd1_s hf
      obtain ⟨x54, e_x54, hf⟩ := hf
      refine ax_callS (As := [.int (x53 &&& (x38 ^^^ (-1 : Int32)))]) (rest := [.int x36]) (c_jI_bitCount e_x54) ml_668 cm_jI_bitCount (Nat.le_trans (Nat.le_of_ble_eq_true rfl) hR1) (Nat.le_trans (Nat.le_of_ble_eq_true rfl) hR2) rfl rfl (Nat.le_of_ble_eq_true rfl) dAd_agreeAt_197 ?_
      replace hf := ite_c hf
      rcases hf with ⟨hc, hf⟩ | ⟨hc, hf⟩
      · refine ax_icmp_gtT 225 dAd_agreeAt_200 (by decide) hc ?_
        refine ax_iconst (0 : Int32) dAd_agreeAt_225 k32_0 ?_
        cases hf
        exact Hr (Or.inl rfl) _ _ dAd_agreeAt_226
      · refine ax_icmp_gtF 225 dAd_agreeAt_200 (by decide) hc ?_
        refine ax_aload_n (i := 0) (some o) dAd_agreeAt_203 rfl rfl ?_
        replace hf := bd1_s hf
        obtain ⟨r55, e_r55, hf⟩ := hf
        refine ax_getR fl_177 rfl dAd_agreeAt_204 e_r55 ?_
        replace hf := bd1_s hf
        obtain ⟨a56, e_d, hf⟩ := hf
        subst e_d
        replace hf := bd1_s hf
        obtain ⟨r57, e_r57, hf⟩ := hf
        refine ax_getR fl_483 rfl dAd_agreeAt_207 e_r57 ?_
        refine ax_iload_n (i := 2) dAd_agreeAt_210 rfl rfl ?_
        replace hf := bd1_s hf
        obtain ⟨a58, e_d, hf⟩ := hf
        subst e_d
        replace hf := bd1_s hf
        obtain ⟨x59, e_x59, hf⟩ := hf
        refine ax_iald dAd_agreeAt_211 e_x59 ?_
        refine ax_iload (i := 7) dAd_agreeAt_212 rfl ?_
        refine ax_iconst (-1 : Int32) dAd_agreeAt_214 k32_m1 ?_
        refine ax_ixor dAd_agreeAt_215 ?_
        refine ax_iand dAd_agreeAt_216 ?_
        replace hf := bd1_s hf
        obtain ⟨x60, e_x60, hf⟩ := hf
        refine ax_callS (As := [.int (x59 &&& (x38 ^^^ (-1 : Int32)))]) (rest := []) (c_jI_bitCount e_x60) ml_668 cm_jI_bitCount (Nat.le_trans (Nat.le_of_ble_eq_true rfl) hR1) (Nat.le_trans (Nat.le_of_ble_eq_true rfl) hR2) rfl rfl (Nat.le_of_ble_eq_true rfl) dAd_agreeAt_217 ?_
        refine ax_iload (i := 6) dAd_agreeAt_220 rfl ?_
        replace hf := ite_c hf
        rcases hf with ⟨hc, hf⟩ | ⟨hc, hf⟩
        · refine ax_icmp_leF 227 dAd_agreeAt_222 (by decide) hc ?_
          refine ax_iconst (0 : Int32) dAd_agreeAt_225 k32_0 ?_
          cases hf
          exact Hr (Or.inl rfl) _ _ dAd_agreeAt_226
        · refine ax_icmp_leT 227 dAd_agreeAt_222 (by decide) hc ?_
          refine ax_aload_n (i := 0) (some o) dAd_agreeAt_227 rfl rfl ?_
          replace hf := bd1_s hf
          obtain ⟨r61, e_r61, hf⟩ := hf
          refine ax_getR fl_176 rfl dAd_agreeAt_228 e_r61 ?_
          replace hf := bd1_s hf
          obtain ⟨a62, e_d, hf⟩ := hf
          subst e_d
          replace hf := bd1_s hf
          obtain ⟨r63, e_r63, hf⟩ := hf
          refine ax_getR fl_483 rfl dAd_agreeAt_231 e_r63 ?_
          refine ax_iload_n (i := 1) dAd_agreeAt_234 rfl rfl ?_
          replace hf := bd1_s hf
          obtain ⟨a64, e_d, hf⟩ := hf
          subst e_d
          replace hf := bd1_s hf
          obtain ⟨x65, e_x65, hf⟩ := hf
          refine ax_iald dAd_agreeAt_235 e_x65 ?_
          refine ax_aload_n (i := 0) (some o) dAd_agreeAt_236 rfl rfl ?_
          replace hf := bd1_s hf
          obtain ⟨r66, e_r66, hf⟩ := hf
          refine ax_getR fl_177 rfl dAd_agreeAt_237 e_r66 ?_
          replace hf := bd1_s hf
          obtain ⟨a67, e_d, hf⟩ := hf
          subst e_d
          replace hf := bd1_s hf
          obtain ⟨r68, e_r68, hf⟩ := hf
          refine ax_getR fl_483 rfl dAd_agreeAt_240 e_r68 ?_
          refine ax_iload_n (i := 2) dAd_agreeAt_243 rfl rfl ?_
          replace hf := bd1_s hf
          obtain ⟨a69, e_d, hf⟩ := hf
          subst e_d
          replace hf := bd1_s hf
          obtain ⟨x70, e_x70, hf⟩ := hf
          refine ax_iald dAd_agreeAt_244 e_x70 ?_
          refine ax_ior dAd_agreeAt_245 ?_
          replace hf := ite_c hf
          rcases hf with ⟨hc, hf⟩ | ⟨hc, hf⟩
          · refine ax_if_neF 271 dAd_agreeAt_246 (by decide) hc ?_
            refine ax_aload_n (i := 0) (some o) dAd_agreeAt_249 rfl rfl ?_
            replace hf := bd1_s hf
            obtain ⟨r71, e_r71, hf⟩ := hf
            refine ax_getR fl_176 rfl dAd_agreeAt_250 e_r71 ?_
            refine ax_iload_n (i := 1) dAd_agreeAt_253 rfl rfl ?_
            replace hf := bd1_s hf
            obtain ⟨a72, e_d, hf⟩ := hf
            subst e_d
            replace hf := bd1_s hf
            obtain ⟨x73, e_x73, hf⟩ := hf
            obtain ⟨k_e_x73, e_x73⟩ := cv_s e_x73
            refine ax_callV (As := [.int p1]) (rest := []) (c_Ta_mayEnd e_x73) ml_669 cm_Ta_mayEnd rfl k_e_x73 (Nat.le_trans (Nat.le_of_ble_eq_true rfl) hR1) (Nat.le_trans (Nat.le_of_ble_eq_true rfl) hR2) rfl rfl (Nat.le_of_ble_eq_true rfl) dAd_agreeAt_254 ?_
            replace hf := ite_c hf
            rcases hf with ⟨hc, hf⟩ | ⟨hc, hf⟩
            · refine ax_if_eqT 275 dAd_agreeAt_257 (by decide) hc ?_
              refine ax_iconst (0 : Int32) dAd_agreeAt_275 k32_0 ?_
              cases hf
              exact Hr (Or.inl rfl) _ _ dAd_agreeAt_276
            · refine ax_if_eqF 275 dAd_agreeAt_257 (by decide) hc ?_
              refine ax_aload_n (i := 0) (some o) dAd_agreeAt_260 rfl rfl ?_
              replace hf := bd1_s hf
              obtain ⟨r74, e_r74, hf⟩ := hf
              refine ax_getR fl_177 rfl dAd_agreeAt_261 e_r74 ?_
              refine ax_iload_n (i := 2) dAd_agreeAt_264 rfl rfl ?_
              replace hf := bd1_s hf
              obtain ⟨a75, e_d, hf⟩ := hf
              subst e_d
              replace hf := bd1_s hf
              obtain ⟨x76, e_x76, hf⟩ := hf
              obtain ⟨k_e_x76, e_x76⟩ := cv_s e_x76
              refine ax_callV (As := [.int p2]) (rest := []) (c_Ta_mayEnd e_x76) ml_669 cm_Ta_mayEnd rfl k_e_x76 (Nat.le_trans (Nat.le_of_ble_eq_true rfl) hR1) (Nat.le_trans (Nat.le_of_ble_eq_true rfl) hR2) rfl rfl (Nat.le_of_ble_eq_true rfl) dAd_agreeAt_265 ?_
              replace hf := ite_c hf
              rcases hf with ⟨hc, hf⟩ | ⟨hc, hf⟩
              · refine ax_if_eqT 275 dAd_agreeAt_268 (by decide) hc ?_
                refine ax_iconst (0 : Int32) dAd_agreeAt_275 k32_0 ?_
                cases hf
                exact Hr (Or.inl rfl) _ _ dAd_agreeAt_276
              · refine ax_if_eqF 275 dAd_agreeAt_268 (by decide) hc ?_
                refine ax_iconst (1 : Int32) dAd_agreeAt_271 k32_1 ?_
                refine ax_goto 276 dAd_agreeAt_272 (by decide) ?_
                cases hf
                exact Hr (Or.inr rfl) _ _ dAd_agreeAt_276
          · refine ax_if_neT 271 dAd_agreeAt_246 (by decide) hc ?_
            refine ax_iconst (1 : Int32) dAd_agreeAt_271 k32_1 ?_
            refine ax_goto 276 dAd_agreeAt_272 (by decide) ?_
            cases hf
            exact Hr (Or.inr rfl) _ _ dAd_agreeAt_276
    · refine ax_if_eqF 181 dAd_agreeAt_176 (by decide) hc ?_
      refine ax_iconst (0 : Int32) dAd_agreeAt_179 k32_0 ?_
      cases hf
      exact Hr (Or.inl rfl) _ _ dAd_agreeAt_180
  · refine ax_if_neT 179 dAd_agreeAt_156 (by decide) hc ?_
    refine ax_iconst (0 : Int32) dAd_agreeAt_179 k32_0 ?_
    cases hf
    exact Hr (Or.inl rfl) _ _ dAd_agreeAt_180
theorem c_Ad_agreeAt {l : Launch} {E : EN} {h0 : AH} {o : Nat} {p1 : Int32} {p2 : Int32} {r : Int32} (hf : f_Ad_agreeAt h0 o p1 p2 = some r) : AM l E 2 mi_Ad_agreeAt [va_rf (some o), .int p1, .int p2] h0 (some (.int r)) h0 :=
  am_of2 [(va_rf (some o), false), (.int p1, false), (.int p2, false)] 9 ⟨cat_rf _, rfl, rfl, trivial⟩ rfl rfl (v_Ad_agreeAt (Nat.le_refl _) (Nat.le_refl _) (fun hz pc L hd => ax_zret rfl hz hd rfl) hf)
theorem w_Ad_passFrom_L2 {l : Launch} {E : EN} {R : Room} {B : (Nat × Nat) × (Nat × Nat)} {Qf : QF} {hF : AH} (hR1 : 3 ≤ R.frames) (hR2 : 192 ≤ R.locals) (Hr : ∀ (pc : Nat) (L : List (Option Value)), decode mi_Ad_passFrom.2.1 pc = .ok (.return_, 1) → AW l E mi_Ad_passFrom R B Qf pc L [] hF) {y0 : Nat} {y1 : Int32} {y2 : Int32} : ∀ (n : Nat) (z3 : Int32) (h : AH), f_Ad_passFrom_L2 y0 y1 y2 n z3 h = some hF → AW l E mi_Ad_passFrom R B Qf 2 [some (va_rf (some y0)), some (.int y1), some (.int y2), some (.int z3), none, none] [] h := by
  intro n
  induction n with
  | zero => intro z3 h hf; cases hf
  | succ n ih =>
    intro z3 h hf
    rw [f_Ad_passFrom_L2] at hf
    refine ax_iload_n (i := 3) dAd_passFrom_2 rfl rfl ?_
    refine ax_aload_n (i := 0) (some y0) dAd_passFrom_3 rfl rfl ?_
    replace hf := bd1_s hf
    obtain ⟨x1, e_x1, hf⟩ := hf
    refine ax_getI fl_179 rfl dAd_passFrom_4 e_x1 ?_
    replace hf := ite_c hf
    rcases hf with ⟨hc, hf⟩ | ⟨hc, hf⟩
    · refine ax_icmp_geF 165 dAd_passFrom_7 (by decide) hc ?_
      refine ax_aload_n (i := 0) (some y0) dAd_passFrom_10 rfl rfl ?_
      replace hf := bd1_s hf
      obtain ⟨r2, e_r2, hf⟩ := hf
      refine ax_getR fl_178 rfl dAd_passFrom_11 e_r2 ?_
      refine ax_iload_n (i := 3) dAd_passFrom_14 rfl rfl ?_
      replace hf := bd1_s hf
      obtain ⟨a3, e_d, hf⟩ := hf
      subst e_d
      replace hf := bd1_s hf
      obtain ⟨x4, e_x4, hf⟩ := hf
      refine ax_iald dAd_passFrom_15 e_x4 ?_
      refine ax_istore (i := 4) [some (va_rf (some y0)), some (.int y1), some (.int y2), some (.int z3), some (.int x4), none] dAd_passFrom_16 (Nat.le_of_ble_eq_true rfl) (Or.inr (c1i rfl)) rfl ?_
      refine ax_aload_n (i := 0) (some y0) dAd_passFrom_18 rfl rfl ?_
      replace hf := bd1_s hf
      obtain ⟨r5, e_r5, hf⟩ := hf
      refine ax_getR fl_180 rfl dAd_passFrom_19 e_r5 ?_
      refine ax_iload (i := 4) dAd_passFrom_22 rfl ?_
      replace hf := bd1_s hf
      obtain ⟨a6, e_d, hf⟩ := hf
      subst e_d
      replace hf := bd1_s hf
      obtain ⟨x7, e_x7, hf⟩ := hf
      refine ax_iald dAd_passFrom_24 e_x7 ?_
      refine ax_istore (i := 5) [some (va_rf (some y0)), some (.int y1), some (.int y2), some (.int z3), some (.int x4), some (.int x7)] dAd_passFrom_25 (Nat.le_of_ble_eq_true rfl) (Or.inr (c1i rfl)) rfl ?_
      refine ax_iload (i := 5) dAd_passFrom_27 rfl ?_
      refine ax_iconst (-1 : Int32) dAd_passFrom_29 k32_m1 ?_
      replace hf := bd1_s hf
      obtain ⟨h27, hT, hf⟩ := hf
      have K : AW l E mi_Ad_passFrom R B Qf 93 [some (va_rf (some y0)), some (.int y1), some (.int y2), some (.int z3), some (.int x4), some (.int x7)] [] h27 := by
        clear hT
        refine ax_iload (i := 5) dAd_passFrom_93 rfl ?_
        refine ax_iconst (-1 : Int32) dAd_passFrom_95 k32_m1 ?_
        replace hf := ite_c hf
        rcases hf with ⟨hc, hf⟩ | ⟨hc, hf⟩
        · refine ax_icmp_eqT 159 dAd_passFrom_96 (by decide) hc ?_
          refine ax_iinc (i := 3) (z3 + (1 : Int32)) [some (va_rf (some y0)), some (.int y1), some (.int y2), some (.int (z3 + (1 : Int32))), some (.int x4), some (.int x7)] dAd_passFrom_159 rfl (iic k32_1) (Or.inr (c1i rfl)) rfl ?_
          refine ax_goto 2 dAd_passFrom_162 (by decide) ?_
          refine ax_mask [true, true, true, true, false, false] rfl [some (va_rf (some y0)), some (.int y1), some (.int y2), some (.int (z3 + (1 : Int32))), none, none] rfl ?_
          exact ih (z3 + (1 : Int32)) h27 hf
        · refine ax_icmp_eqF 159 dAd_passFrom_96 (by decide) hc ?_
          refine ax_aload_n (i := 0) (some y0) dAd_passFrom_99 rfl rfl ?_
          replace hf := bd1_s hf
          obtain ⟨r28, e_r28, hf⟩ := hf
          refine ax_getR fl_176 rfl dAd_passFrom_100 e_r28 ?_
          replace hf := bd1_s hf
          obtain ⟨a29, e_d, hf⟩ := hf
          subst e_d
          replace hf := bd1_s hf
          obtain ⟨r30, e_r30, hf⟩ := hf
          refine ax_getR fl_479 rfl dAd_passFrom_103 e_r30 ?_
          refine ax_iload_n (i := 1) dAd_passFrom_106 rfl rfl ?_
          replace hf := bd1_s hf
          obtain ⟨a31, e_d, hf⟩ := hf
          subst e_d
          replace hf := bd1_s hf
          obtain ⟨x32, e_x32, hf⟩ := hf
          refine ax_iald dAd_passFrom_107 e_x32 ?_
          refine ax_iload (i := 4) dAd_passFrom_108 rfl ?_
          replace hf := bd1_s hf
          obtain ⟨x33, e_x33, hf⟩ := hf
          refine ax_callS (As := [.int x32, .int x4]) (rest := []) (c_C_hasBit e_x33) ml_651 cm_C_hasBit (Nat.le_trans (Nat.le_of_ble_eq_true rfl) hR1) (Nat.le_trans (Nat.le_of_ble_eq_true rfl) hR2) rfl rfl (Nat.le_of_ble_eq_true rfl) dAd_passFrom_110 ?_
          replace hf := ite_c hf
          rcases hf with ⟨hc, hf⟩ | ⟨hc, hf⟩
          · refine ax_if_eqT 159 dAd_passFrom_113 (by decide) hc ?_
            refine ax_iinc (i := 3) (z3 + (1 : Int32)) [some (va_rf (some y0)), some (.int y1), some (.int y2), some (.int (z3 + (1 : Int32))), some (.int x4), some (.int x7)] dAd_passFrom_159 rfl (iic k32_1) (Or.inr (c1i rfl)) rfl ?_
            refine ax_goto 2 dAd_passFrom_162 (by decide) ?_
            refine ax_mask [true, true, true, true, false, false] rfl [some (va_rf (some y0)), some (.int y1), some (.int y2), some (.int (z3 + (1 : Int32))), none, none] rfl ?_
            exact ih (z3 + (1 : Int32)) h27 hf
          · refine ax_if_eqF 159 dAd_passFrom_113 (by decide) hc ?_
            refine ax_aload_n (i := 0) (some y0) dAd_passFrom_116 rfl rfl ?_
            replace hf := bd1_s hf
            obtain ⟨r34, e_r34, hf⟩ := hf
            refine ax_getR fl_177 rfl dAd_passFrom_117 e_r34 ?_
            replace hf := bd1_s hf
            obtain ⟨a35, e_d, hf⟩ := hf
            subst e_d
            replace hf := bd1_s hf
            obtain ⟨r36, e_r36, hf⟩ := hf
            refine ax_getR fl_483 rfl dAd_passFrom_120 e_r36 ?_
            refine ax_iload_n (i := 2) dAd_passFrom_123 rfl rfl ?_
            replace hf := bd1_s hf
            obtain ⟨a37, e_d, hf⟩ := hf
            subst e_d
            replace hf := bd1_s hf
            obtain ⟨x38, e_x38, hf⟩ := hf
            refine ax_iald dAd_passFrom_124 e_x38 ?_
            refine ax_iload (i := 5) dAd_passFrom_125 rfl ?_
            replace hf := bd1_s hf
            obtain ⟨x39, e_x39, hf⟩ := hf
            refine ax_callS (As := [.int x38, .int x7]) (rest := []) (c_C_hasBit e_x39) ml_651 cm_C_hasBit (Nat.le_trans (Nat.le_of_ble_eq_true rfl) hR1) (Nat.le_trans (Nat.le_of_ble_eq_true rfl) hR2) rfl rfl (Nat.le_of_ble_eq_true rfl) dAd_passFrom_127 ?_
            replace hf := ite_c hf
            rcases hf with ⟨hc, hf⟩ | ⟨hc, hf⟩
            · refine ax_if_eqT 159 dAd_passFrom_130 (by decide) hc ?_
              refine ax_iinc (i := 3) (z3 + (1 : Int32)) [some (va_rf (some y0)), some (.int y1), some (.int y2), some (.int (z3 + (1 : Int32))), some (.int x4), some (.int x7)] dAd_passFrom_159 rfl (iic k32_1) (Or.inr (c1i rfl)) rfl ?_
              refine ax_goto 2 dAd_passFrom_162 (by decide) ?_
              refine ax_mask [true, true, true, true, false, false] rfl [some (va_rf (some y0)), some (.int y1), some (.int y2), some (.int (z3 + (1 : Int32))), none, none] rfl ?_
              exact ih (z3 + (1 : Int32)) h27 hf
            · refine ax_if_eqF 159 dAd_passFrom_130 (by decide) hc ?_
              refine ax_aload_n (i := 0) (some y0) dAd_passFrom_133 rfl rfl ?_
              refine ax_aload_n (i := 0) (some y0) dAd_passFrom_134 rfl rfl ?_
              replace hf := bd1_s hf
              obtain ⟨r40, e_r40, hf⟩ := hf
              refine ax_getR fl_176 rfl dAd_passFrom_135 e_r40 ?_
              refine ax_iload_n (i := 1) dAd_passFrom_138 rfl rfl ?_
              refine ax_iconst (0 : Int32) dAd_passFrom_139 k32_0 ?_
              refine ax_iload (i := 4) dAd_passFrom_140 rfl ?_
              replace hf := bd1_s hf
              obtain ⟨a41, e_d, hf⟩ := hf
              subst e_d
              replace hf := bd1_s hf
              obtain ⟨x42, e_x42, hf⟩ := hf
              obtain ⟨k_e_x42, e_x42⟩ := cv_s e_x42
              refine ax_callV (As := [.int y1, .int (0 : Int32), .int x4]) (rest := [va_rf (some y0)]) (c_Ta_behind e_x42) ml_674 cm_Ta_behind rfl k_e_x42 (Nat.le_trans (Nat.le_of_ble_eq_true rfl) hR1) (Nat.le_trans (Nat.le_of_ble_eq_true rfl) hR2) rfl rfl (Nat.le_of_ble_eq_true rfl) dAd_passFrom_142 ?_
              refine ax_aload_n (i := 0) (some y0) dAd_passFrom_145 rfl rfl ?_
              replace hf := bd1_s hf
              obtain ⟨r43, e_r43, hf⟩ := hf
              refine ax_getR fl_177 rfl dAd_passFrom_146 e_r43 ?_
              refine ax_iload_n (i := 2) dAd_passFrom_149 rfl rfl ?_
              refine ax_iconst (1 : Int32) dAd_passFrom_150 k32_1 ?_
              refine ax_iload (i := 5) dAd_passFrom_151 rfl ?_
              replace hf := bd1_s hf
              obtain ⟨a44, e_d, hf⟩ := hf
              subst e_d
              replace hf := bd1_s hf
              obtain ⟨x45, e_x45, hf⟩ := hf
              obtain ⟨k_e_x45, e_x45⟩ := cv_s e_x45
              refine ax_callV (As := [.int y2, .int (1 : Int32), .int x7]) (rest := [.int x42, va_rf (some y0)]) (c_Ta_behind e_x45) ml_674 cm_Ta_behind rfl k_e_x45 (Nat.le_trans (Nat.le_of_ble_eq_true rfl) hR1) (Nat.le_trans (Nat.le_of_ble_eq_true rfl) hR2) rfl rfl (Nat.le_of_ble_eq_true rfl) dAd_passFrom_153 ?_
              replace hf := bd1_s hf
              obtain ⟨h46, e_h46, hf⟩ := hf
              obtain ⟨k_e_h46, e_h46⟩ := cv_s e_h46
              refine ax_callV (As := [.int x42, .int x45]) (rest := []) (c_Ad_reach e_h46) ml_660 cm_Ad_reach rfl k_e_h46 (Nat.le_trans (Nat.le_of_ble_eq_true rfl) hR1) (Nat.le_trans (Nat.le_of_ble_eq_true rfl) hR2) rfl rfl (Nat.le_of_ble_eq_true rfl) dAd_passFrom_156 ?_
              refine ax_iinc (i := 3) (z3 + (1 : Int32)) [some (va_rf (some y0)), some (.int y1), some (.int y2), some (.int (z3 + (1 : Int32))), some (.int x4), some (.int x7)] dAd_passFrom_159 rfl (iic k32_1) (Or.inr (c1i rfl)) rfl ?_
              refine ax_goto 2 dAd_passFrom_162 (by decide) ?_
              refine ax_mask [true, true, true, true, false, false] rfl [some (va_rf (some y0)), some (.int y1), some (.int y2), some (.int (z3 + (1 : Int32))), none, none] rfl ?_
              exact ih (z3 + (1 : Int32)) h46 hf
      replace hf := hT
      clear hT
      replace hf := ite_c hf
      rcases hf with ⟨hc, hf⟩ | ⟨hc, hf⟩
      · refine ax_icmp_eqT 93 dAd_passFrom_30 (by decide) hc ?_
        cases hf
        exact K
      · refine ax_icmp_eqF 93 dAd_passFrom_30 (by decide) hc ?_
        refine ax_aload_n (i := 0) (some y0) dAd_passFrom_33 rfl rfl ?_
        replace hf := bd1_s hf
        obtain ⟨r8, e_r8, hf⟩ := hf
        refine ax_getR fl_176 rfl dAd_passFrom_34 e_r8 ?_
        replace hf := bd1_s hf
        obtain ⟨a9, e_d, hf⟩ := hf
        subst e_d
        replace hf := bd1_s hf
        obtain ⟨r10, e_r10, hf⟩ := hf
        refine ax_getR fl_483 rfl dAd_passFrom_37 e_r10 ?_
        refine ax_iload_n (i := 1) dAd_passFrom_40 rfl rfl ?_
        replace hf := bd1_s hf
        obtain ⟨a11, e_d, hf⟩ := hf
        subst e_d
        replace hf := bd1_s hf
        obtain ⟨x12, e_x12, hf⟩ := hf
        refine ax_iald dAd_passFrom_41 e_x12 ?_
        refine ax_iload (i := 4) dAd_passFrom_42 rfl ?_
        replace hf := bd1_s hf
        obtain ⟨x13, e_x13, hf⟩ := hf
        refine ax_callS (As := [.int x12, .int x4]) (rest := []) (c_C_hasBit e_x13) ml_651 cm_C_hasBit (Nat.le_trans (Nat.le_of_ble_eq_true rfl) hR1) (Nat.le_trans (Nat.le_of_ble_eq_true rfl) hR2) rfl rfl (Nat.le_of_ble_eq_true rfl) dAd_passFrom_44 ?_
        replace hf := ite_c hf
        rcases hf with ⟨hc, hf⟩ | ⟨hc, hf⟩
        · refine ax_if_eqT 93 dAd_passFrom_47 (by decide) hc ?_
          cases hf
          exact K
        · refine ax_if_eqF 93 dAd_passFrom_47 (by decide) hc ?_
          refine ax_aload_n (i := 0) (some y0) dAd_passFrom_50 rfl rfl ?_
          replace hf := bd1_s hf
          obtain ⟨r14, e_r14, hf⟩ := hf
          refine ax_getR fl_177 rfl dAd_passFrom_51 e_r14 ?_
          replace hf := bd1_s hf
          obtain ⟨a15, e_d, hf⟩ := hf
          subst e_d
          replace hf := bd1_s hf
          obtain ⟨r16, e_r16, hf⟩ := hf
          refine ax_getR fl_479 rfl dAd_passFrom_54 e_r16 ?_
          refine ax_iload_n (i := 2) dAd_passFrom_57 rfl rfl ?_
          replace hf := bd1_s hf
          obtain ⟨a17, e_d, hf⟩ := hf
          subst e_d
          replace hf := bd1_s hf
          obtain ⟨x18, e_x18, hf⟩ := hf
          refine ax_iald dAd_passFrom_58 e_x18 ?_
          refine ax_iload (i := 5) dAd_passFrom_59 rfl ?_
          replace hf := bd1_s hf
          obtain ⟨x19, e_x19, hf⟩ := hf
          refine ax_callS (As := [.int x18, .int x7]) (rest := []) (c_C_hasBit e_x19) ml_651 cm_C_hasBit (Nat.le_trans (Nat.le_of_ble_eq_true rfl) hR1) (Nat.le_trans (Nat.le_of_ble_eq_true rfl) hR2) rfl rfl (Nat.le_of_ble_eq_true rfl) dAd_passFrom_61 ?_
          replace hf := ite_c hf
          rcases hf with ⟨hc, hf⟩ | ⟨hc, hf⟩
          · refine ax_if_eqT 93 dAd_passFrom_64 (by decide) hc ?_
            cases hf
            exact K
          · refine ax_if_eqF 93 dAd_passFrom_64 (by decide) hc ?_
            refine ax_aload_n (i := 0) (some y0) dAd_passFrom_67 rfl rfl ?_
            refine ax_aload_n (i := 0) (some y0) dAd_passFrom_68 rfl rfl ?_
            replace hf := bd1_s hf
            obtain ⟨r20, e_r20, hf⟩ := hf
            refine ax_getR fl_176 rfl dAd_passFrom_69 e_r20 ?_
            refine ax_iload_n (i := 1) dAd_passFrom_72 rfl rfl ?_
            refine ax_iconst (1 : Int32) dAd_passFrom_73 k32_1 ?_
            refine ax_iload (i := 4) dAd_passFrom_74 rfl ?_
            replace hf := bd1_s hf
            obtain ⟨a21, e_d, hf⟩ := hf
            subst e_d
            replace hf := bd1_s hf
            obtain ⟨x22, e_x22, hf⟩ := hf
            obtain ⟨k_e_x22, e_x22⟩ := cv_s e_x22
            refine ax_callV (As := [.int y1, .int (1 : Int32), .int x4]) (rest := [va_rf (some y0)]) (c_Ta_behind e_x22) ml_674 cm_Ta_behind rfl k_e_x22 (Nat.le_trans (Nat.le_of_ble_eq_true rfl) hR1) (Nat.le_trans (Nat.le_of_ble_eq_true rfl) hR2) rfl rfl (Nat.le_of_ble_eq_true rfl) dAd_passFrom_76 ?_
            refine ax_aload_n (i := 0) (some y0) dAd_passFrom_79 rfl rfl ?_
            replace hf := bd1_s hf
            obtain ⟨r23, e_r23, hf⟩ := hf
            refine ax_getR fl_177 rfl dAd_passFrom_80 e_r23 ?_
            refine ax_iload_n (i := 2) dAd_passFrom_83 rfl rfl ?_
            refine ax_iconst (0 : Int32) dAd_passFrom_84 k32_0 ?_
            refine ax_iload (i := 5) dAd_passFrom_85 rfl ?_
            replace hf := bd1_s hf
            obtain ⟨a24, e_d, hf⟩ := hf
            subst e_d
            replace hf := bd1_s hf
            obtain ⟨x25, e_x25, hf⟩ := hf
            obtain ⟨k_e_x25, e_x25⟩ := cv_s e_x25
            refine ax_callV (As := [.int y2, .int (0 : Int32), .int x7]) (rest := [.int x22, va_rf (some y0)]) (c_Ta_behind e_x25) ml_674 cm_Ta_behind rfl k_e_x25 (Nat.le_trans (Nat.le_of_ble_eq_true rfl) hR1) (Nat.le_trans (Nat.le_of_ble_eq_true rfl) hR2) rfl rfl (Nat.le_of_ble_eq_true rfl) dAd_passFrom_87 ?_
            replace hf := bd1_s hf
            obtain ⟨h26, e_h26, hf⟩ := hf
            obtain ⟨k_e_h26, e_h26⟩ := cv_s e_h26
            refine ax_callV (As := [.int x22, .int x25]) (rest := []) (c_Ad_reach e_h26) ml_660 cm_Ad_reach rfl k_e_h26 (Nat.le_trans (Nat.le_of_ble_eq_true rfl) hR1) (Nat.le_trans (Nat.le_of_ble_eq_true rfl) hR2) rfl rfl (Nat.le_of_ble_eq_true rfl) dAd_passFrom_90 ?_
            cases hf
            exact K
    · refine ax_icmp_geT 165 dAd_passFrom_7 (by decide) hc ?_
      cases hf
      exact Hr _ _ dAd_passFrom_165
theorem v_Ad_passFrom {l : Launch} {E : EN} {R : Room} {B : (Nat × Nat) × (Nat × Nat)} {Qf : QF} {h0 : AH} {o : Nat} {p1 : Int32} {p2 : Int32} {hF : AH} (hR1 : 3 ≤ R.frames) (hR2 : 192 ≤ R.locals) (Hr : ∀ (pc : Nat) (L : List (Option Value)), decode mi_Ad_passFrom.2.1 pc = .ok (.return_, 1) → AW l E mi_Ad_passFrom R B Qf pc L [] hF) (hf : f_Ad_passFrom h0 o p1 p2 = some hF) : AW l E mi_Ad_passFrom R B Qf 0 [some (va_rf (some o)), some (.int p1), some (.int p2), none, none, none] [] h0 := by
  unfold f_Ad_passFrom at hf
  refine ax_iconst (0 : Int32) dAd_passFrom_0 k32_0 ?_
  refine ax_istore_n (i := 3) [some (va_rf (some o)), some (.int p1), some (.int p2), some (.int (0 : Int32)), none, none] dAd_passFrom_1 rfl (Nat.le_of_ble_eq_true rfl) (Or.inr (c1i rfl)) rfl ?_
  refine w_Ad_passFrom_L2 hR1 hR2 Hr FU (0 : Int32) h0 hf
theorem c_Ad_passFrom {l : Launch} {E : EN} {h0 : AH} {o : Nat} {p1 : Int32} {p2 : Int32} {hF : AH} (hf : f_Ad_passFrom h0 o p1 p2 = some hF) : AM l E 3 mi_Ad_passFrom [va_rf (some o), .int p1, .int p2] h0 none hF :=
  am_of2 [(va_rf (some o), false), (.int p1, false), (.int p2, false)] 3 ⟨cat_rf _, rfl, rfl, trivial⟩ rfl rfl (v_Ad_passFrom (Nat.le_refl _) (Nat.le_refl _) (fun pc L hd => ax_vret rfl hd rfl) hf)
theorem w_Ad_agree_L21 {l : Launch} {E : EN} {R : Room} {B : (Nat × Nat) × (Nat × Nat)} {Qf : QF} {r : Int32} {hF : AH} (hR1 : 4 ≤ R.frames) (hR2 : 256 ≤ R.locals) (Hr : (r = 0 ∨ r = 1) → ∀ (pc : Nat) (L : List (Option Value)), decode mi_Ad_agree.2.1 pc = .ok (.ireturn, 1) → AW l E mi_Ad_agree R B Qf pc L [.int r] hF) {y0 : Nat} : ∀ (n : Nat) (z1 : Int32) (h : AH), f_Ad_agree_L21 y0 n z1 h = some (r, hF) → AW l E mi_Ad_agree R B Qf 21 [some (va_rf (some y0)), some (.int z1), none, none] [] h := by
  intro n
  induction n with
  | zero => intro z1 h hf; cases hf
  | succ n ih =>
    intro z1 h hf
    rw [f_Ad_agree_L21] at hf
    refine ax_iload_n (i := 1) dAd_agree_21 rfl rfl ?_
    refine ax_sipush (625 : Int32) dAd_agree_22 k16_625 ?_
    replace hf := ite_c hf
    rcases hf with ⟨hc, hf⟩ | ⟨hc, hf⟩
    · refine ax_icmp_geF 93 dAd_agree_25 (by decide) hc ?_
      refine ax_aload_n (i := 0) (some y0) dAd_agree_28 rfl rfl ?_
      replace hf := bd1_s hf
      obtain ⟨x5, e_x5, hf⟩ := hf
      refine ax_getI fl_184 rfl dAd_agree_29 e_x5 ?_
      replace hf := ite_c hf
      rcases hf with ⟨hc, hf⟩ | ⟨hc, hf⟩
      · refine ax_if_leF 93 dAd_agree_32 (by decide) hc ?_
        refine ax_aload_n (i := 0) (some y0) dAd_agree_35 rfl rfl ?_
        refine ax_dup dAd_agree_36 rfl ?_
        replace hf := bd1_s hf
        obtain ⟨x6, e_x6, hf⟩ := hf
        refine ax_getI fl_184 rfl dAd_agree_37 e_x6 ?_
        refine ax_iconst (1 : Int32) dAd_agree_40 k32_1 ?_
        refine ax_isub dAd_agree_41 ?_
        replace hf := bd1_s hf
        obtain ⟨h7, e_h7, hf⟩ := hf
        refine ax_putI fw_184 rfl rfl dAd_agree_42 e_h7 ?_
        refine ax_aload_n (i := 0) (some y0) dAd_agree_45 rfl rfl ?_
        replace hf := bd1_s hf
        obtain ⟨r8, e_r8, hf⟩ := hf
        refine ax_getR fl_183 rfl dAd_agree_46 e_r8 ?_
        refine ax_aload_n (i := 0) (some y0) dAd_agree_49 rfl rfl ?_
        replace hf := bd1_s hf
        obtain ⟨x9, e_x9, hf⟩ := hf
        refine ax_getI fl_184 rfl dAd_agree_50 e_x9 ?_
        replace hf := bd1_s hf
        obtain ⟨a10, e_d, hf⟩ := hf
        subst e_d
        replace hf := bd1_s hf
        obtain ⟨x11, e_x11, hf⟩ := hf
        refine ax_iald dAd_agree_53 e_x11 ?_
        refine ax_bipush (31 : Int32) dAd_agree_54 k8_31 ?_
        refine ax_iand dAd_agree_56 ?_
        replace hf := bd1_s hf
        obtain ⟨x12, e_x12, hf⟩ := hf
        refine ax_nmI (Option.some.inj e_x12) ?_
        refine ax_istore_n (i := 2) [some (va_rf (some y0)), some (.int z1), some (.int x12), none] dAd_agree_57 rfl (Nat.le_of_ble_eq_true rfl) (Or.inr (c1i rfl)) rfl ?_
        refine ax_aload_n (i := 0) (some y0) dAd_agree_58 rfl rfl ?_
        replace hf := bd1_s hf
        obtain ⟨r13, e_r13, hf⟩ := hf
        refine ax_getR fl_183 rfl dAd_agree_59 e_r13 ?_
        refine ax_aload_n (i := 0) (some y0) dAd_agree_62 rfl rfl ?_
        replace hf := bd1_s hf
        obtain ⟨x14, e_x14, hf⟩ := hf
        refine ax_getI fl_184 rfl dAd_agree_63 e_x14 ?_
        replace hf := bd1_s hf
        obtain ⟨a15, e_d, hf⟩ := hf
        subst e_d
        replace hf := bd1_s hf
        obtain ⟨x16, e_x16, hf⟩ := hf
        refine ax_iald dAd_agree_66 e_x16 ?_
        refine ax_iconst (5 : Int32) dAd_agree_67 k32_5 ?_
        refine ax_ishr dAd_agree_68 ?_
        replace hf := bd1_s hf
        obtain ⟨x17, e_x17, hf⟩ := hf
        refine ax_nmI (Option.some.inj e_x17) ?_
        refine ax_istore_n (i := 3) [some (va_rf (some y0)), some (.int z1), some (.int x12), some (.int x17)] dAd_agree_69 rfl (Nat.le_of_ble_eq_true rfl) (Or.inr (c1i rfl)) rfl ?_
        refine ax_aload_n (i := 0) (some y0) dAd_agree_70 rfl rfl ?_
        refine ax_iload_n (i := 2) dAd_agree_71 rfl rfl ?_
        refine ax_iload_n (i := 3) dAd_agree_72 rfl rfl ?_
        replace hf := bd1_s hf
        obtain ⟨x18, e_x18, hf⟩ := hf
        obtain ⟨k_e_x18, e_x18⟩ := cv_s e_x18
        refine ax_callV (As := [.int x12, .int x17]) (rest := []) (c_Ad_agreeAt e_x18) ml_664 cm_Ad_agreeAt rfl k_e_x18 (Nat.le_trans (Nat.le_of_ble_eq_true rfl) hR1) (Nat.le_trans (Nat.le_of_ble_eq_true rfl) hR2) rfl rfl (Nat.le_of_ble_eq_true rfl) dAd_agree_73 ?_
        replace hf := ite_c hf
        rcases hf with ⟨hc, hf⟩ | ⟨hc, hf⟩
        · refine ax_if_neF 81 dAd_agree_76 (by decide) hc ?_
          refine ax_iconst (0 : Int32) dAd_agree_79 k32_0 ?_
          cases hf
          exact Hr (Or.inl rfl) _ _ dAd_agree_80
        · refine ax_if_neT 81 dAd_agree_76 (by decide) hc ?_
          refine ax_aload_n (i := 0) (some y0) dAd_agree_81 rfl rfl ?_
          refine ax_iload_n (i := 2) dAd_agree_82 rfl rfl ?_
          refine ax_iload_n (i := 3) dAd_agree_83 rfl rfl ?_
          replace hf := bd1_s hf
          obtain ⟨h19, e_h19, hf⟩ := hf
          obtain ⟨k_e_h19, e_h19⟩ := cv_s e_h19
          refine ax_callV (As := [.int x12, .int x17]) (rest := []) (c_Ad_passFrom e_h19) ml_670 cm_Ad_passFrom rfl k_e_h19 (Nat.le_trans (Nat.le_of_ble_eq_true rfl) hR1) (Nat.le_trans (Nat.le_of_ble_eq_true rfl) hR2) rfl rfl (Nat.le_of_ble_eq_true rfl) dAd_agree_84 ?_
          refine ax_iinc (i := 1) (z1 + (1 : Int32)) [some (va_rf (some y0)), some (.int (z1 + (1 : Int32))), some (.int x12), some (.int x17)] dAd_agree_87 rfl (iic k32_1) (Or.inr (c1r rfl)) rfl ?_
          refine ax_goto 21 dAd_agree_90 (by decide) ?_
          refine ax_mask [true, true, false, false] rfl [some (va_rf (some y0)), some (.int (z1 + (1 : Int32))), none, none] rfl ?_
          exact ih (z1 + (1 : Int32)) h19 hf
      · refine ax_if_leT 93 dAd_agree_32 (by decide) hc ?_
        refine ax_iconst (1 : Int32) dAd_agree_93 k32_1 ?_
        cases hf
        exact Hr (Or.inr rfl) _ _ dAd_agree_94
    · refine ax_icmp_geT 93 dAd_agree_25 (by decide) hc ?_
      refine ax_iconst (1 : Int32) dAd_agree_93 k32_1 ?_
      cases hf
      exact Hr (Or.inr rfl) _ _ dAd_agree_94
theorem v_Ad_agree {l : Launch} {E : EN} {R : Room} {B : (Nat × Nat) × (Nat × Nat)} {Qf : QF} {h0 : AH} {o : Nat} {r : Int32} {hF : AH} (hR1 : 4 ≤ R.frames) (hR2 : 256 ≤ R.locals) (Hr : (r = 0 ∨ r = 1) → ∀ (pc : Nat) (L : List (Option Value)), decode mi_Ad_agree.2.1 pc = .ok (.ireturn, 1) → AW l E mi_Ad_agree R B Qf pc L [.int r] hF) (hf : f_Ad_agree h0 o = some (r, hF)) : AW l E mi_Ad_agree R B Qf 0 [some (va_rf (some o)), none, none, none] [] h0 := by
  unfold f_Ad_agree at hf
  refine ax_aload_n (i := 0) (some o) dAd_agree_0 rfl rfl ?_
  replace hf := bd1_s hf
  obtain ⟨r1, e_r1, hf⟩ := hf
  refine ax_getR fl_182 rfl dAd_agree_1 e_r1 ?_
  refine ax_iconst (0 : Int32) dAd_agree_4 k32_0 ?_
  replace hf := bd1_s hf
  obtain ⟨h2, e_h2, hf⟩ := hf
  refine ax_callS (As := [va_rf r1, .int (0 : Int32)]) (rest := []) (c_jA_fill_I e_h2) ml_649 cm_jA_fill_I (Nat.le_trans (Nat.le_of_ble_eq_true rfl) hR1) (Nat.le_trans (Nat.le_of_ble_eq_true rfl) hR2) rfl rfl (Nat.le_of_ble_eq_true rfl) dAd_agree_5 ?_
  refine ax_aload_n (i := 0) (some o) dAd_agree_8 rfl rfl ?_
  refine ax_iconst (0 : Int32) dAd_agree_9 k32_0 ?_
  replace hf := bd1_s hf
  obtain ⟨h3, e_h3, hf⟩ := hf
  refine ax_putI fw_184 rfl rfl dAd_agree_10 e_h3 ?_
  refine ax_aload_n (i := 0) (some o) dAd_agree_13 rfl rfl ?_
  refine ax_iconst (0 : Int32) dAd_agree_14 k32_0 ?_
  refine ax_iconst (0 : Int32) dAd_agree_15 k32_0 ?_
  replace hf := bd1_s hf
  obtain ⟨h4, e_h4, hf⟩ := hf
  obtain ⟨k_e_h4, e_h4⟩ := cv_s e_h4
  refine ax_callV (As := [.int (0 : Int32), .int (0 : Int32)]) (rest := []) (c_Ad_reach e_h4) ml_660 cm_Ad_reach rfl k_e_h4 (Nat.le_trans (Nat.le_of_ble_eq_true rfl) hR1) (Nat.le_trans (Nat.le_of_ble_eq_true rfl) hR2) rfl rfl (Nat.le_of_ble_eq_true rfl) dAd_agree_16 ?_
  refine ax_iconst (0 : Int32) dAd_agree_19 k32_0 ?_
  refine ax_istore_n (i := 1) [some (va_rf (some o)), some (.int (0 : Int32)), none, none] dAd_agree_20 rfl (Nat.le_of_ble_eq_true rfl) (Or.inr (c1r rfl)) rfl ?_
  refine w_Ad_agree_L21 hR1 hR2 Hr FU (0 : Int32) h4 hf
theorem c_Ad_agree {l : Launch} {E : EN} {h0 : AH} {o : Nat} {r : Int32} {hF : AH} (hf : f_Ad_agree h0 o = some (r, hF)) : AM l E 4 mi_Ad_agree [va_rf (some o)] h0 (some (.int r)) hF :=
  am_of2 [(va_rf (some o), false)] 3 ⟨cat_rf _, trivial⟩ rfl rfl (v_Ad_agree (Nat.le_refl _) (Nat.le_refl _) (fun hz pc L hd => ax_zret rfl hz hd rfl) hf)
theorem w_Ad_keepFound_L4 {l : Launch} {E : EN} {R : Room} {B : (Nat × Nat) × (Nat × Nat)} {Qf : QF} {h0 : AH} {ρ : Type} {res : ρ} (hR1 : 1 ≤ R.frames) (hR2 : 64 ≤ R.locals) {y0 : Nat} {k : Int32 → Option (ρ)} (hk : ∀ (z1 : Int32), k z1 = some res → AW l E mi_Ad_keepFound R B Qf 36 [some (va_rf (some y0)), some (.int z1), none] [] h0) : ∀ (n : Nat) (z1 : Int32) (z2 : Int32), f_Ad_keepFound_L4 h0 y0 k n z1 z2 = some res → AW l E mi_Ad_keepFound R B Qf 4 [some (va_rf (some y0)), some (.int z1), some (.int z2)] [] h0 := by
  intro n
  induction n with
  | zero => intro z1 z2 hf; cases hf
  | succ n ih =>
    intro z1 z2 hf
    rw [f_Ad_keepFound_L4] at hf
    refine ax_iload_n (i := 2) dAd_keepFound_4 rfl rfl ?_
    refine ax_aload_n (i := 0) (some y0) dAd_keepFound_5 rfl rfl ?_
    replace hf := bd1_s hf
    obtain ⟨x1, e_x1, hf⟩ := hf
    refine ax_getI fl_179 rfl dAd_keepFound_6 e_x1 ?_
    replace hf := ite_c hf
    rcases hf with ⟨hc, hf⟩ | ⟨hc, hf⟩
    · refine ax_icmp_geF 36 dAd_keepFound_9 (by decide) hc ?_
      refine ax_iload_n (i := 1) dAd_keepFound_12 rfl rfl ?_
      refine ax_aload_n (i := 0) (some y0) dAd_keepFound_13 rfl rfl ?_
      replace hf := bd1_s hf
      obtain ⟨r2, e_r2, hf⟩ := hf
      refine ax_getR fl_180 rfl dAd_keepFound_14 e_r2 ?_
      refine ax_aload_n (i := 0) (some y0) dAd_keepFound_17 rfl rfl ?_
      replace hf := bd1_s hf
      obtain ⟨r3, e_r3, hf⟩ := hf
      refine ax_getR fl_178 rfl dAd_keepFound_18 e_r3 ?_
      refine ax_iload_n (i := 2) dAd_keepFound_21 rfl rfl ?_
      replace hf := bd1_s hf
      obtain ⟨a4, e_d, hf⟩ := hf
      subst e_d
      replace hf := bd1_s hf
      obtain ⟨x5, e_x5, hf⟩ := hf
      refine ax_iald dAd_keepFound_22 e_x5 ?_
      replace hf := bd1_s hf
      obtain ⟨a6, e_d, hf⟩ := hf
      subst e_d
      replace hf := bd1_s hf
      obtain ⟨x7, e_x7, hf⟩ := hf
      refine ax_iald dAd_keepFound_23 e_x7 ?_
      refine ax_iconst (4 : Int32) dAd_keepFound_24 k32_4 ?_
      refine ax_iload_n (i := 2) dAd_keepFound_25 rfl rfl ?_
      refine ax_imul dAd_keepFound_26 ?_
      refine ax_ishl dAd_keepFound_27 ?_
      refine ax_ior dAd_keepFound_28 ?_
      replace hf := bd1_s hf
      obtain ⟨x8, e_x8, hf⟩ := hf
      refine ax_nmI (Option.some.inj e_x8) ?_
      refine ax_istore_n (i := 1) [some (va_rf (some y0)), some (.int x8), some (.int z2)] dAd_keepFound_29 rfl (Nat.le_of_ble_eq_true rfl) (Or.inr (c1r rfl)) rfl ?_
      refine ax_iinc (i := 2) (z2 + (1 : Int32)) [some (va_rf (some y0)), some (.int x8), some (.int (z2 + (1 : Int32)))] dAd_keepFound_30 rfl (iic k32_1) (Or.inr (c1i rfl)) rfl ?_
      refine ax_goto 4 dAd_keepFound_33 (by decide) ?_
      exact ih x8 (z2 + (1 : Int32)) hf
    · refine ax_icmp_geT 36 dAd_keepFound_9 (by decide) hc ?_
      refine ax_mask [true, true, false] rfl [some (va_rf (some y0)), some (.int z1), none] rfl ?_
      exact hk z1 hf
theorem v_Ad_keepFound {l : Launch} {E : EN} {R : Room} {B : (Nat × Nat) × (Nat × Nat)} {Qf : QF} {h0 : AH} {o : Nat} {hF : AH} (hR1 : 1 ≤ R.frames) (hR2 : 64 ≤ R.locals) (Hr : ∀ (pc : Nat) (L : List (Option Value)), decode mi_Ad_keepFound.2.1 pc = .ok (.return_, 1) → AW l E mi_Ad_keepFound R B Qf pc L [] hF) (hf : f_Ad_keepFound h0 o = some hF) : AW l E mi_Ad_keepFound R B Qf 0 [some (va_rf (some o)), none, none] [] h0 := by
  unfold f_Ad_keepFound at hf
  refine ax_iconst (0 : Int32) dAd_keepFound_0 k32_0 ?_
  refine ax_istore_n (i := 1) [some (va_rf (some o)), some (.int (0 : Int32)), none] dAd_keepFound_1 rfl (Nat.le_of_ble_eq_true rfl) (Or.inr (c1r rfl)) rfl ?_
  refine ax_iconst (0 : Int32) dAd_keepFound_2 k32_0 ?_
  refine ax_istore_n (i := 2) [some (va_rf (some o)), some (.int (0 : Int32)), some (.int (0 : Int32))] dAd_keepFound_3 rfl (Nat.le_of_ble_eq_true rfl) (Or.inr (c1i rfl)) rfl ?_
  refine w_Ad_keepFound_L4 hR1 hR2 (fun x9 hf => ?_) FU (0 : Int32) (0 : Int32) hf
  refine ax_aload_n (i := 0) (some o) dAd_keepFound_36 rfl rfl ?_
  replace hf := bd1_s hf
  obtain ⟨x10, e_x10, hf⟩ := hf
  refine ax_getI fl_174 rfl dAd_keepFound_37 e_x10 ?_
  refine ax_sipush (6720 : Int32) dAd_keepFound_40 k16_6720 ?_
  replace hf := ite_c hf
  rcases hf with ⟨hc, hf⟩ | ⟨hc, hf⟩
  · refine ax_icmp_geF 66 dAd_keepFound_43 (by decide) hc ?_
    refine ax_aload_n (i := 0) (some o) dAd_keepFound_46 rfl rfl ?_
    replace hf := bd1_s hf
    obtain ⟨r11, e_r11, hf⟩ := hf
    refine ax_getR fl_173 rfl dAd_keepFound_47 e_r11 ?_
    refine ax_aload_n (i := 0) (some o) dAd_keepFound_50 rfl rfl ?_
    replace hf := bd1_s hf
    obtain ⟨x12, e_x12, hf⟩ := hf
    refine ax_getI fl_174 rfl dAd_keepFound_51 e_x12 ?_
    refine ax_iload_n (i := 1) dAd_keepFound_54 rfl rfl ?_
    replace hf := bd1_s hf
    obtain ⟨a13, e_d, hf⟩ := hf
    subst e_d
    replace hf := bd1_s hf
    obtain ⟨h14, e_h14, hf⟩ := hf
    refine ax_iast dAd_keepFound_55 e_h14 ?_
    refine ax_aload_n (i := 0) (some o) dAd_keepFound_56 rfl rfl ?_
    refine ax_dup dAd_keepFound_57 rfl ?_
    replace hf := bd1_s hf
    obtain ⟨x15, e_x15, hf⟩ := hf
    refine ax_getI fl_174 rfl dAd_keepFound_58 e_x15 ?_
    refine ax_iconst (1 : Int32) dAd_keepFound_61 k32_1 ?_
    refine ax_iadd dAd_keepFound_62 ?_
    replace hf := bd1_s hf
    obtain ⟨h16, e_h16, hf⟩ := hf
    refine ax_putI fw_174 rfl rfl dAd_keepFound_63 e_h16 ?_
    cases hf
    exact Hr _ _ dAd_keepFound_66
  · refine ax_icmp_geT 66 dAd_keepFound_43 (by decide) hc ?_
    cases hf
    exact Hr _ _ dAd_keepFound_66
theorem c_Ad_keepFound {l : Launch} {E : EN} {h0 : AH} {o : Nat} {hF : AH} (hf : f_Ad_keepFound h0 o = some hF) : AM l E 1 mi_Ad_keepFound [va_rf (some o)] h0 none hF :=
  am_of2 [(va_rf (some o), false)] 2 ⟨cat_rf _, trivial⟩ rfl rfl (v_Ad_keepFound (Nat.le_refl _) (Nat.le_refl _) (fun pc L hd => ax_vret rfl hd rfl) hf)
theorem w_Ad_assign_L30 {l : Launch} {E : EN} {R : Room} {B : (Nat × Nat) × (Nat × Nat)} {Qf : QF} {hF : AH} {dr : Nat} (hR1 : 5 ≤ R.frames) (hR2 : 320 ≤ R.locals) (hr1 : dr + 1 ≤ R.frames) (hr2 : 8 + (4 + 11) + 64 * dr ≤ R.locals) (Hr : ∀ (pc : Nat) (L : List (Option Value)), decode mi_Ad_assign.2.1 pc = .ok (.return_, 1) → AW l E mi_Ad_assign R B Qf pc L [] hF) {rec : AH → Nat → Int32 → Option (AH)} (hrec : ∀ (h : AH) (o : Nat) (q0 : Int32) (h' : AH), rec h o q0 = some h' → AM l E dr mi_Ad_assign [va_rf (some o), .int q0] h none h') {y0 : Nat} {y1 : Int32} {y2 : Int32} : ∀ (n : Nat) (z3 : Int32) (h : AH), f_Ad_assign_L30 rec y0 y1 y2 n z3 h = some hF → AW l E mi_Ad_assign R B Qf 30 [some (va_rf (some y0)), some (.int y1), some (.int y2), some (.int z3)] [] h := by
  intro n
  induction n with
  | zero => intro z3 h hf; cases hf
  | succ n ih =>
    intro z3 h hf
    rw [f_Ad_assign_L30] at hf
    refine ax_iload_n (i := 3) dAd_assign_30 rfl rfl ?_
    refine ax_bipush (8 : Int32) dAd_assign_31 k8_8 ?_
    replace hf := ite_c hf
    rcases hf with ⟨hc, hf⟩ | ⟨hc, hf⟩
    · refine ax_icmp_geF 87 dAd_assign_33 (by decide) hc ?_
      refine ax_aload_n (i := 0) (some y0) dAd_assign_36 rfl rfl ?_
      replace hf := bd1_s hf
      obtain ⟨r7, e_r7, hf⟩ := hf
      refine ax_getR fl_181 rfl dAd_assign_37 e_r7 ?_
      refine ax_iload_n (i := 3) dAd_assign_40 rfl rfl ?_
      replace hf := bd1_s hf
      obtain ⟨a8, e_d, hf⟩ := hf
      subst e_d
      replace hf := bd1_s hf
      obtain ⟨x9, e_x9, hf⟩ := hf
      refine ax_iald dAd_assign_41 e_x9 ?_
      refine ax_iconst (-1 : Int32) dAd_assign_42 k32_m1 ?_
      replace hf := ite_c hf
      rcases hf with ⟨hc, hf⟩ | ⟨hc, hf⟩
      · refine ax_icmp_neF 81 dAd_assign_43 (by decide) hc ?_
        refine ax_aload_n (i := 0) (some y0) dAd_assign_46 rfl rfl ?_
        replace hf := bd1_s hf
        obtain ⟨r10, e_r10, hf⟩ := hf
        refine ax_getR fl_180 rfl dAd_assign_47 e_r10 ?_
        refine ax_iload_n (i := 2) dAd_assign_50 rfl rfl ?_
        refine ax_iload_n (i := 3) dAd_assign_51 rfl rfl ?_
        replace hf := bd1_s hf
        obtain ⟨a11, e_d, hf⟩ := hf
        subst e_d
        replace hf := bd1_s hf
        obtain ⟨h12, e_h12, hf⟩ := hf
        refine ax_iast dAd_assign_52 e_h12 ?_
        refine ax_aload_n (i := 0) (some y0) dAd_assign_53 rfl rfl ?_
        replace hf := bd1_s hf
        obtain ⟨r13, e_r13, hf⟩ := hf
        refine ax_getR fl_181 rfl dAd_assign_54 e_r13 ?_
        refine ax_iload_n (i := 3) dAd_assign_57 rfl rfl ?_
        refine ax_iload_n (i := 2) dAd_assign_58 rfl rfl ?_
        replace hf := bd1_s hf
        obtain ⟨a14, e_d, hf⟩ := hf
        subst e_d
        replace hf := bd1_s hf
        obtain ⟨h15, e_h15, hf⟩ := hf
        refine ax_iast dAd_assign_59 e_h15 ?_
        refine ax_aload_n (i := 0) (some y0) dAd_assign_60 rfl rfl ?_
        refine ax_iload_n (i := 1) dAd_assign_61 rfl rfl ?_
        refine ax_iconst (1 : Int32) dAd_assign_62 k32_1 ?_
        refine ax_iadd dAd_assign_63 ?_
        replace hf := bd1_s hf
        obtain ⟨h16, e_h16, hf⟩ := hf
        obtain ⟨k_e_h16, e_h16⟩ := cv_s e_h16
        refine ax_callV (As := [.int (y1 + (1 : Int32))]) (rest := []) (hrec _ _ _ _ e_h16) ml_652 cm_Ad_assign rfl k_e_h16 hr1 hr2 rfl rfl (Nat.le_of_ble_eq_true rfl) dAd_assign_64 ?_
        refine ax_aload_n (i := 0) (some y0) dAd_assign_67 rfl rfl ?_
        replace hf := bd1_s hf
        obtain ⟨r17, e_r17, hf⟩ := hf
        refine ax_getR fl_180 rfl dAd_assign_68 e_r17 ?_
        refine ax_iload_n (i := 2) dAd_assign_71 rfl rfl ?_
        refine ax_iconst (-1 : Int32) dAd_assign_72 k32_m1 ?_
        replace hf := bd1_s hf
        obtain ⟨a18, e_d, hf⟩ := hf
        subst e_d
        replace hf := bd1_s hf
        obtain ⟨h19, e_h19, hf⟩ := hf
        refine ax_iast dAd_assign_73 e_h19 ?_
        refine ax_aload_n (i := 0) (some y0) dAd_assign_74 rfl rfl ?_
        replace hf := bd1_s hf
        obtain ⟨r20, e_r20, hf⟩ := hf
        refine ax_getR fl_181 rfl dAd_assign_75 e_r20 ?_
        refine ax_iload_n (i := 3) dAd_assign_78 rfl rfl ?_
        refine ax_iconst (-1 : Int32) dAd_assign_79 k32_m1 ?_
        replace hf := bd1_s hf
        obtain ⟨a21, e_d, hf⟩ := hf
        subst e_d
        replace hf := bd1_s hf
        obtain ⟨h22, e_h22, hf⟩ := hf
        refine ax_iast dAd_assign_80 e_h22 ?_
        refine ax_iinc (i := 3) (z3 + (1 : Int32)) [some (va_rf (some y0)), some (.int y1), some (.int y2), some (.int (z3 + (1 : Int32)))] dAd_assign_81 rfl (iic k32_1) (Or.inr (c1i rfl)) rfl ?_
        refine ax_goto 30 dAd_assign_84 (by decide) ?_
        exact ih (z3 + (1 : Int32)) h22 hf
      · refine ax_icmp_neT 81 dAd_assign_43 (by decide) hc ?_
        refine ax_iinc (i := 3) (z3 + (1 : Int32)) [some (va_rf (some y0)), some (.int y1), some (.int y2), some (.int (z3 + (1 : Int32)))] dAd_assign_81 rfl (iic k32_1) (Or.inr (c1i rfl)) rfl ?_
        refine ax_goto 30 dAd_assign_84 (by decide) ?_
        exact ih (z3 + (1 : Int32)) h hf
    · refine ax_icmp_geT 87 dAd_assign_33 (by decide) hc ?_
      cases hf
      exact Hr _ _ dAd_assign_87
theorem v_Ad_assign {l : Launch} {E : EN} {R : Room} {B : (Nat × Nat) × (Nat × Nat)} {Qf : QF} {h0 : AH} {o : Nat} {p1 : Int32} {hF : AH} {dr : Nat} (hR1 : 5 ≤ R.frames) (hR2 : 320 ≤ R.locals) (hr1 : dr + 1 ≤ R.frames) (hr2 : 8 + (4 + 11) + 64 * dr ≤ R.locals) {rec : AH → Nat → Int32 → Option (AH)} (hrec : ∀ (h : AH) (o : Nat) (q0 : Int32) (h' : AH), rec h o q0 = some h' → AM l E dr mi_Ad_assign [va_rf (some o), .int q0] h none h') (Hr : ∀ (pc : Nat) (L : List (Option Value)), decode mi_Ad_assign.2.1 pc = .ok (.return_, 1) → AW l E mi_Ad_assign R B Qf pc L [] hF) (hf : (
  bd2 (cv 1 h0 o (f_Ad_agree h0 o)) fun x1 h2 =>
  if x1 = (0 : Int32) then
    some h2
  else
    (gI 1 h2 o 5).bind fun x3 =>
    if p1 < x3 then
      (gR 1 h2 o 4).bind fun r4 =>
      (r4).bind fun a5 =>
      (rI 1 h2 a5 p1).bind fun x6 =>
      f_Ad_assign_L30 rec o p1 x6 FU (0 : Int32) h2
    else
      (cv 1 h2 o (f_Ad_keepFound h2 o)).bind fun h23 =>
      some h23
  ) = some hF) : AW l E mi_Ad_assign R B Qf 0 [some (va_rf (some o)), some (.int p1), none, none] [] h0 := by
  refine ax_aload_n (i := 0) (some o) dAd_assign_0 rfl rfl ?_
  replace hf := bd2_s hf
  obtain ⟨x1, h2, e_x1, hf⟩ := hf
  obtain ⟨k_e_x1, e_x1⟩ := cv_s e_x1
  refine ax_callV (As := []) (rest := []) (c_Ad_agree e_x1) ml_656 cm_Ad_agree rfl k_e_x1 (Nat.le_trans (Nat.le_of_ble_eq_true rfl) hR1) (Nat.le_trans (Nat.le_of_ble_eq_true rfl) hR2) rfl rfl (Nat.le_of_ble_eq_true rfl) dAd_assign_1 ?_
  replace hf := ite_c hf
  rcases hf with ⟨hc, hf⟩ | ⟨hc, hf⟩
  · refine ax_if_neF 8 dAd_assign_4 (by decide) hc ?_
    cases hf
    exact Hr _ _ dAd_assign_7
  · refine ax_if_neT 8 dAd_assign_4 (by decide) hc ?_
    refine ax_iload_n (i := 1) dAd_assign_8 rfl rfl ?_
    refine ax_aload_n (i := 0) (some o) dAd_assign_9 rfl rfl ?_
    replace hf := bd1_s hf
    obtain ⟨x3, e_x3, hf⟩ := hf
    refine ax_getI fl_179 rfl dAd_assign_10 e_x3 ?_
    replace hf := ite_c hf
    rcases hf with ⟨hc, hf⟩ | ⟨hc, hf⟩
    · refine ax_icmp_ltT 21 dAd_assign_13 (by decide) hc ?_
      refine ax_aload_n (i := 0) (some o) dAd_assign_21 rfl rfl ?_
      replace hf := bd1_s hf
      obtain ⟨r4, e_r4, hf⟩ := hf
      refine ax_getR fl_178 rfl dAd_assign_22 e_r4 ?_
      refine ax_iload_n (i := 1) dAd_assign_25 rfl rfl ?_
      replace hf := bd1_s hf
      obtain ⟨a5, e_d, hf⟩ := hf
      subst e_d
      replace hf := bd1_s hf
      obtain ⟨x6, e_x6, hf⟩ := hf
      refine ax_iald dAd_assign_26 e_x6 ?_
      refine ax_istore_n (i := 2) [some (va_rf (some o)), some (.int p1), some (.int x6), none] dAd_assign_27 rfl (Nat.le_of_ble_eq_true rfl) (Or.inr (c1i rfl)) rfl ?_
      refine ax_iconst (0 : Int32) dAd_assign_28 k32_0 ?_
      refine ax_istore_n (i := 3) [some (va_rf (some o)), some (.int p1), some (.int x6), some (.int (0 : Int32))] dAd_assign_29 rfl (Nat.le_of_ble_eq_true rfl) (Or.inr (c1i rfl)) rfl ?_
      refine w_Ad_assign_L30 hR1 hR2 hr1 hr2 Hr hrec FU (0 : Int32) h2 hf
    · refine ax_icmp_ltF 21 dAd_assign_13 (by decide) hc ?_
      refine ax_aload_n (i := 0) (some o) dAd_assign_16 rfl rfl ?_
      replace hf := bd1_s hf
      obtain ⟨h23, e_h23, hf⟩ := hf
      obtain ⟨k_e_h23, e_h23⟩ := cv_s e_h23
      refine ax_callV (As := []) (rest := []) (c_Ad_keepFound e_h23) ml_675 cm_Ad_keepFound rfl k_e_h23 (Nat.le_trans (Nat.le_of_ble_eq_true rfl) hR1) (Nat.le_trans (Nat.le_of_ble_eq_true rfl) hR2) rfl rfl (Nat.le_of_ble_eq_true rfl) dAd_assign_17 ?_
      cases hf
      exact Hr _ _ dAd_assign_20
theorem c_Ad_assign {l : Launch} {E : EN} : ∀ (n : Nat) {h0 : AH} {o : Nat} {p1 : Int32} {hF : AH}, f_Ad_assign n h0 o p1 = some hF → AM l E (5 + n) mi_Ad_assign [va_rf (some o), .int p1] h0 none hF := by
  intro n
  induction n with
  | zero => intro h0 o p1 hF hf; cases hf
  | succ n ih =>
    intro h0 o p1 hF hf
    unfold f_Ad_assign at hf
    exact am_of2 [(va_rf (some o), false), (.int p1, false)] 2 ⟨cat_rf _, rfl, trivial⟩ rfl rfl (v_Ad_assign (by show _ ≤ 5 + (n + 1); omega) (by show _ ≤ 64 * (5 + (n + 1)); omega) (dr := 5 + n) (by show _ ≤ 5 + (n + 1); omega) (by show _ ≤ 64 * (5 + (n + 1)); omega) (fun h o p1 h' e => ih e) (fun pc L hd => ax_vret rfl hd rfl) hf)
