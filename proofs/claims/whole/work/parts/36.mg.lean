theorem w_M_again_L29 {l : Launch} {E : EN} {R : Room} {B : (Nat × Nat) × (Nat × Nat)} {Qf : QF} {h0 : AH} {ρ : Type} {res : ρ} (hR1 : 4 ≤ R.frames) (hR2 : 256 ≤ R.locals) {y0 : Nat} {y1 : Int32} {k : Int32 → Option (ρ)} (hk : ∀ (z2 : Int32), k z2 = some res → AW l E mi_M_again R B Qf 84 [none, none, some (.int z2), none] [] h0) : ∀ (n : Nat) (z2 : Int32) (z3 : Int32), f_M_again_L29 h0 y0 y1 k n z2 z3 = some res → AW l E mi_M_again R B Qf 29 [some (va_rf (some y0)), some (.int y1), some (.int z2), some (.int z3)] [] h0 := by
  intro n
  induction n with
  | zero => intro z2 z3 hf; cases hf
  | succ n ih =>
    intro z2 z3 hf
    rw [f_M_again_L29] at hf
    refine ax_iload_n (i := 3) dM_again_29 rfl rfl ?_
    refine ax_sipush (4096 : Int32) dM_again_30 k16_4096 ?_
    replace hf := ite_c hf
    rcases hf with ⟨hc, hf⟩ | ⟨hc, hf⟩
    · refine ax_icmp_geF 84 dM_again_33 (by decide) hc ?_
      refine ax_iload_n (i := 2) dM_again_36 rfl rfl ?_
      replace hf := bd1_s hf
      obtain ⟨x12, hT, hf⟩ := hf
      have K : AW l E mi_M_again R B Qf 77 [some (va_rf (some y0)), some (.int y1), none, some (.int z3)] [.int x12] h0 := by
        clear hT
        refine ax_istore_n (i := 2) [some (va_rf (some y0)), some (.int y1), some (.int x12), some (.int z3)] dM_again_77 rfl (Nat.le_of_ble_eq_true rfl) (Or.inr (c1i rfl)) rfl ?_
        refine ax_iinc (i := 3) (z3 + (1 : Int32)) [some (va_rf (some y0)), some (.int y1), some (.int x12), some (.int (z3 + (1 : Int32)))] dM_again_78 rfl (iic k32_1) (Or.inr (c1i rfl)) rfl ?_
        refine ax_goto 29 dM_again_81 (by decide) ?_
        exact ih x12 (z3 + (1 : Int32)) hf
      replace hf := hT
      clear hT
      replace hf := ite_c hf
      rcases hf with ⟨hc, hf⟩ | ⟨hc, hf⟩
      · refine ax_if_eqT 76 dM_again_37 (by decide) hc ?_
        refine ax_iconst (0 : Int32) dM_again_76 k32_0 ?_
        refine ax_mask [true, true, false, true] rfl [some (va_rf (some y0)), some (.int y1), none, some (.int z3)] rfl ?_
        cases hf
        exact K
      · refine ax_if_eqF 76 dM_again_37 (by decide) hc ?_
        refine ax_aload_n (i := 0) (some y0) dM_again_40 rfl rfl ?_
        replace hf := bd1_s hf
        obtain ⟨r5, e_r5, hf⟩ := hf
        refine ax_getR fl_1068 rfl dM_again_41 e_r5 ?_
        refine ax_iload_n (i := 3) dM_again_44 rfl rfl ?_
        replace hf := bd1_s hf
        obtain ⟨a6, e_d, hf⟩ := hf
        subst e_d
        replace hf := bd1_s hf
        obtain ⟨x7, e_x7, hf⟩ := hf
        refine ax_zald dM_again_45 e_x7 ?_
        replace hf := ite_c hf
        rcases hf with ⟨hc, hf⟩ | ⟨hc, hf⟩
        · refine ax_if_eqT 72 dM_again_46 (by decide) hc ?_
          refine ax_iconst (1 : Int32) dM_again_72 k32_1 ?_
          refine ax_goto 77 dM_again_73 (by decide) ?_
          refine ax_mask [true, true, false, true] rfl [some (va_rf (some y0)), some (.int y1), none, some (.int z3)] rfl ?_
          cases hf
          exact K
        · refine ax_if_eqF 72 dM_again_46 (by decide) hc ?_
          refine ax_aload_n (i := 0) (some y0) dM_again_49 rfl rfl ?_
          replace hf := bd1_s hf
          obtain ⟨r8, e_r8, hf⟩ := hf
          refine ax_getR fl_1023 rfl dM_again_50 e_r8 ?_
          refine ax_iload_n (i := 1) dM_again_53 rfl rfl ?_
          replace hf := bd1_s hf
          obtain ⟨a9, e_d, hf⟩ := hf
          subst e_d
          replace hf := bd1_s hf
          obtain ⟨x10, e_x10, hf⟩ := hf
          refine ax_iald dM_again_54 e_x10 ?_
          refine ax_iload_n (i := 3) dM_again_55 rfl rfl ?_
          refine ax_iconst (-1 : Int32) dM_again_56 k32_m1 ?_
          refine ax_ixor dM_again_57 ?_
          refine ax_iand dM_again_58 ?_
          replace hf := ite_c hf
          rcases hf with ⟨hc, hf⟩ | ⟨hc, hf⟩
          · refine ax_if_neF 76 dM_again_59 (by decide) hc ?_
            refine ax_aload_n (i := 0) (some y0) dM_again_62 rfl rfl ?_
            refine ax_iload_n (i := 3) dM_again_63 rfl rfl ?_
            refine ax_iload_n (i := 1) dM_again_64 rfl rfl ?_
            replace hf := bd1_s hf
            obtain ⟨x11, e_x11, hf⟩ := hf
            obtain ⟨k_e_x11, e_x11⟩ := cv_s e_x11
            refine ax_callV (As := [.int z3, .int y1]) (rest := []) (c_M_did e_x11) ml_1541 cm_M_did rfl k_e_x11 (Nat.le_trans (Nat.le_of_ble_eq_true rfl) hR1) (Nat.le_trans (Nat.le_of_ble_eq_true rfl) hR2) rfl rfl (Nat.le_of_ble_eq_true rfl) dM_again_65 ?_
            refine ax_iload_n (i := 3) dM_again_68 rfl rfl ?_
            replace hf := ite_c hf
            rcases hf with ⟨hc, hf⟩ | ⟨hc, hf⟩
            · refine ax_icmp_neF 76 dM_again_69 (by decide) hc ?_
              refine ax_iconst (1 : Int32) dM_again_72 k32_1 ?_
              refine ax_goto 77 dM_again_73 (by decide) ?_
              refine ax_mask [true, true, false, true] rfl [some (va_rf (some y0)), some (.int y1), none, some (.int z3)] rfl ?_
              cases hf
              exact K
            · refine ax_icmp_neT 76 dM_again_69 (by decide) hc ?_
              refine ax_iconst (0 : Int32) dM_again_76 k32_0 ?_
              refine ax_mask [true, true, false, true] rfl [some (va_rf (some y0)), some (.int y1), none, some (.int z3)] rfl ?_
              cases hf
              exact K
          · refine ax_if_neT 76 dM_again_59 (by decide) hc ?_
            refine ax_iconst (0 : Int32) dM_again_76 k32_0 ?_
            refine ax_mask [true, true, false, true] rfl [some (va_rf (some y0)), some (.int y1), none, some (.int z3)] rfl ?_
            cases hf
            exact K
    · refine ax_icmp_geT 84 dM_again_33 (by decide) hc ?_
      refine ax_mask [false, false, true, false] rfl [none, none, some (.int z2), none] rfl ?_
      exact hk z2 hf
theorem v_M_again {l : Launch} {E : EN} {R : Room} {B : (Nat × Nat) × (Nat × Nat)} {Qf : QF} {h0 : AH} {o : Nat} {p1 : Int32} {r : Int32} {hF : AH} (hR1 : 4 ≤ R.frames) (hR2 : 256 ≤ R.locals) (Hr : ∀ (pc : Nat) (L : List (Option Value)), decode mi_M_again.2.1 pc = .ok (.ireturn, 1) → AW l E mi_M_again R B Qf pc L [.int r] hF) (hf : f_M_again h0 o p1 = some (r, hF)) : AW l E mi_M_again R B Qf 0 [some (va_rf (some o)), some (.int p1), none, none] [] h0 := by
  unfold f_M_again at hf
  refine ax_aload_n (i := 0) (some o) dM_again_0 rfl rfl ?_
  refine ax_iload_n (i := 1) dM_again_1 rfl rfl ?_
  replace hf := bd1_s hf
  obtain ⟨x1, e_x1, hf⟩ := hf
  obtain ⟨k_e_x1, e_x1⟩ := cv_s e_x1
  refine ax_callV (As := [.int p1]) (rest := []) (c_M_isHelper e_x1) ml_1408 cm_M_isHelper rfl k_e_x1 (Nat.le_trans (Nat.le_of_ble_eq_true rfl) hR1) (Nat.le_trans (Nat.le_of_ble_eq_true rfl) hR2) rfl rfl (Nat.le_of_ble_eq_true rfl) dM_again_2 ?_
  replace hf := ite_c hf
  rcases hf with ⟨hc, hf⟩ | ⟨hc, hf⟩
  · refine ax_if_neF 11 dM_again_5 (by decide) hc ?_
    refine ax_bipush (-101 : Int32) dM_again_8 k8_m101 ?_
    cases hf
    exact Hr _ _ dM_again_10
  · refine ax_if_neT 11 dM_again_5 (by decide) hc ?_
    refine ax_aload_n (i := 0) (some o) dM_again_11 rfl rfl ?_
    refine ax_aload_n (i := 0) (some o) dM_again_12 rfl rfl ?_
    replace hf := bd1_s hf
    obtain ⟨x2, e_x2, hf⟩ := hf
    refine ax_getI fl_1031 rfl dM_again_13 e_x2 ?_
    replace hf := bd2_s hf
    obtain ⟨x3, h4, e_x3, hf⟩ := hf
    obtain ⟨k_e_x3, e_x3⟩ := cv_s e_x3
    refine ax_callV (As := [.int x2]) (rest := []) (c_M_passAll e_x3) ml_1533 cm_M_passAll rfl k_e_x3 (Nat.le_trans (Nat.le_of_ble_eq_true rfl) hR1) (Nat.le_trans (Nat.le_of_ble_eq_true rfl) hR2) rfl rfl (Nat.le_of_ble_eq_true rfl) dM_again_16 ?_
    replace hf := ite_c hf
    rcases hf with ⟨hc, hf⟩ | ⟨hc, hf⟩
    · refine ax_if_neF 25 dM_again_19 (by decide) hc ?_
      refine ax_bipush (-103 : Int32) dM_again_22 k8_m103 ?_
      cases hf
      exact Hr _ _ dM_again_24
    · refine ax_if_neT 25 dM_again_19 (by decide) hc ?_
      refine ax_iconst (1 : Int32) dM_again_25 k32_1 ?_
      refine ax_istore_n (i := 2) [some (va_rf (some o)), some (.int p1), some (.int (1 : Int32)), none] dM_again_26 rfl (Nat.le_of_ble_eq_true rfl) (Or.inr (c1i rfl)) rfl ?_
      refine ax_iconst (0 : Int32) dM_again_27 k32_0 ?_
      refine ax_istore_n (i := 3) [some (va_rf (some o)), some (.int p1), some (.int (1 : Int32)), some (.int (0 : Int32))] dM_again_28 rfl (Nat.le_of_ble_eq_true rfl) (Or.inr (c1i rfl)) rfl ?_
      refine w_M_again_L29 hR1 hR2 (fun x13 hf => ?_) FU (1 : Int32) (0 : Int32) hf
      refine ax_iload_n (i := 2) dM_again_84 rfl rfl ?_
      replace hf := ite_c hf
      rcases hf with ⟨hc, hf⟩ | ⟨hc, hf⟩
      · refine ax_if_eqT 92 dM_again_85 (by decide) hc ?_
        refine ax_iconst (0 : Int32) dM_again_92 k32_0 ?_
        cases hf
        exact Hr _ _ dM_again_93
      · refine ax_if_eqF 92 dM_again_85 (by decide) hc ?_
        refine ax_iconst (1 : Int32) dM_again_88 k32_1 ?_
        refine ax_goto 93 dM_again_89 (by decide) ?_
        cases hf
        exact Hr _ _ dM_again_93
theorem c_M_again {l : Launch} {E : EN} {h0 : AH} {o : Nat} {p1 : Int32} {r : Int32} {hF : AH} (hf : f_M_again h0 o p1 = some (r, hF)) : AM l E 4 mi_M_again [va_rf (some o), .int p1] h0 (some (.int r)) hF :=
  am_of2 [(va_rf (some o), false), (.int p1, false)] 2 ⟨cat_rf _, rfl, trivial⟩ rfl rfl (v_M_again (Nat.le_refl _) (Nat.le_refl _) (fun pc L hd => ax_iret rfl hd rfl) hf)
theorem v_M_count {l : Launch} {E : EN} {R : Room} {B : (Nat × Nat) × (Nat × Nat)} {Qf : QF} {h0 : AH} {o : Nat} {p1 : Int32} {r : Int32} (hR1 : 1 ≤ R.frames) (hR2 : 64 ≤ R.locals) (Hr : ∀ (pc : Nat) (L : List (Option Value)), decode mi_M_count.2.1 pc = .ok (.ireturn, 1) → AW l E mi_M_count R B Qf pc L [.int r] h0) (hf : f_M_count h0 o p1 = some r) : AW l E mi_M_count R B Qf 0 [some (va_rf (some o)), some (.int p1)] [] h0 := by
  unfold f_M_count at hf
  refine ax_iload_n (i := 1) dM_count_0 rfl rfl ?_
  replace hf := ite_c hf
  rcases hf with ⟨hc, hf⟩ | ⟨hn0, hf⟩
  · refine ax_tsIn 48 dM_count_1 0 (by rw [hc]; decide) (by decide) rfl (by decide) ?_
    refine ax_aload_n (i := 0) (some o) dM_count_48 rfl rfl ?_
    replace hf := bd1_s hf
    obtain ⟨x8, e_x8, hf⟩ := hf
    refine ax_getI fl_1015 rfl dM_count_49 e_x8 ?_
    cases hf
    exact Hr _ _ dM_count_52
  replace hf := ite_c hf
  rcases hf with ⟨hc, hf⟩ | ⟨hn1, hf⟩
  · refine ax_tsIn 53 dM_count_1 1 (by rw [hc]; decide) (by decide) rfl (by decide) ?_
    refine ax_aload_n (i := 0) (some o) dM_count_53 rfl rfl ?_
    replace hf := bd1_s hf
    obtain ⟨x7, e_x7, hf⟩ := hf
    refine ax_getI fl_1013 rfl dM_count_54 e_x7 ?_
    cases hf
    exact Hr _ _ dM_count_57
  replace hf := ite_c hf
  rcases hf with ⟨hc, hf⟩ | ⟨hn2, hf⟩
  · refine ax_tsIn 58 dM_count_1 2 (by rw [hc]; decide) (by decide) rfl (by decide) ?_
    refine ax_aload_n (i := 0) (some o) dM_count_58 rfl rfl ?_
    replace hf := bd1_s hf
    obtain ⟨x6, e_x6, hf⟩ := hf
    refine ax_getI fl_1022 rfl dM_count_59 e_x6 ?_
    cases hf
    exact Hr _ _ dM_count_62
  replace hf := ite_c hf
  rcases hf with ⟨hc, hf⟩ | ⟨hn3, hf⟩
  · refine ax_tsIn 63 dM_count_1 3 (by rw [hc]; decide) (by decide) rfl (by decide) ?_
    refine ax_aload_n (i := 0) (some o) dM_count_63 rfl rfl ?_
    replace hf := bd1_s hf
    obtain ⟨x5, e_x5, hf⟩ := hf
    refine ax_getI fl_1031 rfl dM_count_64 e_x5 ?_
    cases hf
    exact Hr _ _ dM_count_67
  replace hf := ite_c hf
  rcases hf with ⟨hc, hf⟩ | ⟨hn4, hf⟩
  · refine ax_tsIn 68 dM_count_1 4 (by rw [hc]; decide) (by decide) rfl (by decide) ?_
    refine ax_aload_n (i := 0) (some o) dM_count_68 rfl rfl ?_
    replace hf := bd1_s hf
    obtain ⟨x4, e_x4, hf⟩ := hf
    refine ax_getI fl_1019 rfl dM_count_69 e_x4 ?_
    cases hf
    exact Hr _ _ dM_count_72
  replace hf := ite_c hf
  rcases hf with ⟨hc, hf⟩ | ⟨hn5, hf⟩
  · refine ax_tsIn 73 dM_count_1 5 (by rw [hc]; decide) (by decide) rfl (by decide) ?_
    refine ax_aload_n (i := 0) (some o) dM_count_73 rfl rfl ?_
    replace hf := bd1_s hf
    obtain ⟨x3, e_x3, hf⟩ := hf
    refine ax_getI fl_1020 rfl dM_count_74 e_x3 ?_
    cases hf
    exact Hr _ _ dM_count_77
  replace hf := ite_c hf
  rcases hf with ⟨hc, hf⟩ | ⟨hn6, hf⟩
  · refine ax_tsIn 78 dM_count_1 6 (by rw [hc]; decide) (by decide) rfl (by decide) ?_
    refine ax_aload_n (i := 0) (some o) dM_count_78 rfl rfl ?_
    replace hf := bd1_s hf
    obtain ⟨x2, e_x2, hf⟩ := hf
    refine ax_getI fl_1021 rfl dM_count_79 e_x2 ?_
    cases hf
    exact Hr _ _ dM_count_82
  replace hf := ite_c hf
  rcases hf with ⟨hc, hf⟩ | ⟨hn7, hf⟩
  · refine ax_tsIn 83 dM_count_1 7 (by rw [hc]; decide) (by decide) rfl (by decide) ?_
    refine ax_aload_n (i := 0) (some o) dM_count_83 rfl rfl ?_
    replace hf := bd1_s hf
    obtain ⟨x1, e_x1, hf⟩ := hf
    refine ax_getI fl_1028 rfl dM_count_84 e_x1 ?_
    cases hf
    exact Hr _ _ dM_count_87
  refine ax_tsOut 88 dM_count_1 (ts_out 7 (by decide) (fun j hj => match j, hj with | 0, _ => hn0 | 1, _ => hn1 | 2, _ => hn2 | 3, _ => hn3 | 4, _ => hn4 | 5, _ => hn5 | 6, _ => hn6 | 7, _ => hn7 | (n + 8), hj => absurd hj (by omega))) (by decide) ?_
  refine ax_bipush (-102 : Int32) dM_count_88 k8_m102 ?_
  cases hf
  exact Hr _ _ dM_count_90
theorem c_M_count {l : Launch} {E : EN} {h0 : AH} {o : Nat} {p1 : Int32} {r : Int32} (hf : f_M_count h0 o p1 = some r) : AM l E 1 mi_M_count [va_rf (some o), .int p1] h0 (some (.int r)) h0 :=
  am_of2 [(va_rf (some o), false), (.int p1, false)] 0 ⟨cat_rf _, rfl, trivial⟩ rfl rfl (v_M_count (Nat.le_refl _) (Nat.le_refl _) (fun pc L hd => ax_iret rfl hd rfl) hf)
theorem v_M_mix {l : Launch} {E : EN} {R : Room} {B : (Nat × Nat) × (Nat × Nat)} {Qf : QF} {h0 : AH} {o : Nat} {p1 : Int64} {hF : AH} (hR1 : 1 ≤ R.frames) (hR2 : 64 ≤ R.locals) (Hr : ∀ (pc : Nat) (L : List (Option Value)), decode mi_M_mix.2.1 pc = .ok (.return_, 1) → AW l E mi_M_mix R B Qf pc L [] hF) (hf : f_M_mix h0 o p1 = some hF) : AW l E mi_M_mix R B Qf 0 [some (va_rf (some o)), some (.long p1), none] [] h0 := by
  unfold f_M_mix at hf
  refine ax_aload_n (i := 0) (some o) dM_mix_0 rfl rfl ?_
  refine ax_ldc2 w_1578 dM_mix_1 ?_
  refine ax_aload_n (i := 0) (some o) dM_mix_4 rfl rfl ?_
  replace hf := bd1_s hf
  obtain ⟨x1, e_x1, hf⟩ := hf
  refine ax_getJ fl_1070 rfl dM_mix_5 e_x1 ?_
  refine ax_lmul dM_mix_8 ?_
  refine ax_lload_n (i := 1) dM_mix_9 rfl rfl ?_
  refine ax_ladd dM_mix_10 ?_
  replace hf := bd1_s hf
  obtain ⟨h2, e_h2, hf⟩ := hf
  refine ax_putJ fw_1070 rfl rfl dM_mix_11 e_h2 ?_
  cases hf
  exact Hr _ _ dM_mix_14
theorem c_M_mix {l : Launch} {E : EN} {h0 : AH} {o : Nat} {p1 : Int64} {hF : AH} (hf : f_M_mix h0 o p1 = some hF) : AM l E 1 mi_M_mix [va_rf (some o), .long p1] h0 none hF :=
  am_of2 [(va_rf (some o), false), (.long p1, true)] 0 ⟨cat_rf _, rfl, trivial⟩ rfl rfl (v_M_mix (Nat.le_refl _) (Nat.le_refl _) (fun pc L hd => ax_vret rfl hd rfl) hf)
theorem w_M_mixTalk_L48 {l : Launch} {E : EN} {R : Room} {B : (Nat × Nat) × (Nat × Nat)} {Qf : QF} {ρ : Type} {res : ρ} (hR1 : 2 ≤ R.frames) (hR2 : 128 ≤ R.locals) {y0 : Nat} {y1 : Int32} {y2 : Int32} {k : AH → Option (ρ)} (hk : ∀ (h : AH), k h = some res → AW l E mi_M_mixTalk R B Qf 77 [some (va_rf (some y0)), some (.int y1), some (.int y2), none] [] h) : ∀ (n : Nat) (z3 : Int32) (h : AH), f_M_mixTalk_L48 y0 y1 y2 k n z3 h = some res → AW l E mi_M_mixTalk R B Qf 48 [some (va_rf (some y0)), some (.int y1), some (.int y2), some (.int z3)] [] h := by
  intro n
  induction n with
  | zero => intro z3 h hf; cases hf
  | succ n ih =>
    intro z3 h hf
    rw [f_M_mixTalk_L48] at hf
    refine ax_iload_n (i := 3) dM_mixTalk_48 rfl rfl ?_
    refine ax_bipush (16 : Int32) dM_mixTalk_49 k8_16 ?_
    replace hf := ite_c hf
    rcases hf with ⟨hc, hf⟩ | ⟨hc, hf⟩
    · refine ax_icmp_geF 77 dM_mixTalk_51 (by decide) hc ?_
      refine ax_aload_n (i := 0) (some y0) dM_mixTalk_54 rfl rfl ?_
      refine ax_aload_n (i := 0) (some y0) dM_mixTalk_55 rfl rfl ?_
      replace hf := bd1_s hf
      obtain ⟨r13, e_r13, hf⟩ := hf
      refine ax_getR fl_1017 rfl dM_mixTalk_56 e_r13 ?_
      refine ax_iload_n (i := 1) dM_mixTalk_59 rfl rfl ?_
      refine ax_iload_n (i := 2) dM_mixTalk_60 rfl rfl ?_
      refine ax_iconst (0 : Int32) dM_mixTalk_61 k32_0 ?_
      refine ax_iload_n (i := 3) dM_mixTalk_62 rfl rfl ?_
      replace hf := bd1_s hf
      obtain ⟨x14, e_x14, hf⟩ := hf
      refine ax_callS (As := [.int y1, .int y2, .int (0 : Int32), .int z3]) (rest := [va_rf r13, va_rf (some y0)]) (c_M_place e_x14) ml_1246 cm_M_place (Nat.le_trans (Nat.le_of_ble_eq_true rfl) hR1) (Nat.le_trans (Nat.le_of_ble_eq_true rfl) hR2) rfl rfl (by simp only [List.map_cons, List.map_nil, List.sum_cons, List.sum_nil, cat_rf]; exact Nat.le_of_ble_eq_true rfl) dM_mixTalk_63 ?_
      replace hf := bd1_s hf
      obtain ⟨a15, e_d, hf⟩ := hf
      subst e_d
      replace hf := bd1_s hf
      obtain ⟨x16, e_x16, hf⟩ := hf
      refine ax_iald dM_mixTalk_66 e_x16 ?_
      refine ax_i2l dM_mixTalk_67 ?_
      replace hf := bd1_s hf
      obtain ⟨h17, e_h17, hf⟩ := hf
      obtain ⟨k_e_h17, e_h17⟩ := cv_s e_h17
      refine ax_callV (As := [.long ((x16).toInt64)]) (rest := []) (c_M_mix e_h17) ml_1574 cm_M_mix rfl k_e_h17 (Nat.le_trans (Nat.le_of_ble_eq_true rfl) hR1) (Nat.le_trans (Nat.le_of_ble_eq_true rfl) hR2) rfl rfl (Nat.le_of_ble_eq_true rfl) dM_mixTalk_68 ?_
      refine ax_iinc (i := 3) (z3 + (1 : Int32)) [some (va_rf (some y0)), some (.int y1), some (.int y2), some (.int (z3 + (1 : Int32)))] dM_mixTalk_71 rfl (iic k32_1) (Or.inr (c1i rfl)) rfl ?_
      refine ax_goto 48 dM_mixTalk_74 (by decide) ?_
      exact ih (z3 + (1 : Int32)) h17 hf
    · refine ax_icmp_geT 77 dM_mixTalk_51 (by decide) hc ?_
      refine ax_mask [true, true, true, false] rfl [some (va_rf (some y0)), some (.int y1), some (.int y2), none] rfl ?_
      exact hk h hf
theorem w_M_mixTalk_L13 {l : Launch} {E : EN} {R : Room} {B : (Nat × Nat) × (Nat × Nat)} {Qf : QF} {hF : AH} (hR1 : 2 ≤ R.frames) (hR2 : 128 ≤ R.locals) (Hr : ∀ (pc : Nat) (L : List (Option Value)), decode mi_M_mixTalk.2.1 pc = .ok (.return_, 1) → AW l E mi_M_mixTalk R B Qf pc L [] hF) {y0 : Nat} {y1 : Int32} : ∀ (n : Nat) (z2 : Int32) (h : AH), f_M_mixTalk_L13 y0 y1 n z2 h = some hF → AW l E mi_M_mixTalk R B Qf 13 [some (va_rf (some y0)), some (.int y1), some (.int z2), none] [] h := by
  intro n
  induction n with
  | zero => intro z2 h hf; cases hf
  | succ n ih =>
    intro z2 h hf
    rw [f_M_mixTalk_L13] at hf
    refine ax_iload_n (i := 2) dM_mixTalk_13 rfl rfl ?_
    refine ax_aload_n (i := 0) (some y0) dM_mixTalk_14 rfl rfl ?_
    replace hf := bd1_s hf
    obtain ⟨r5, e_r5, hf⟩ := hf
    refine ax_getR fl_1016 rfl dM_mixTalk_15 e_r5 ?_
    refine ax_iload_n (i := 1) dM_mixTalk_18 rfl rfl ?_
    replace hf := bd1_s hf
    obtain ⟨a6, e_d, hf⟩ := hf
    subst e_d
    replace hf := bd1_s hf
    obtain ⟨x7, e_x7, hf⟩ := hf
    refine ax_iald dM_mixTalk_19 e_x7 ?_
    replace hf := ite_c hf
    rcases hf with ⟨hc, hf⟩ | ⟨hc, hf⟩
    · refine ax_icmp_gtT 83 dM_mixTalk_20 (by decide) hc ?_
      cases hf
      exact Hr _ _ dM_mixTalk_83
    · refine ax_icmp_gtF 83 dM_mixTalk_20 (by decide) hc ?_
      refine ax_aload_n (i := 0) (some y0) dM_mixTalk_23 rfl rfl ?_
      refine ax_aload_n (i := 0) (some y0) dM_mixTalk_24 rfl rfl ?_
      replace hf := bd1_s hf
      obtain ⟨r8, e_r8, hf⟩ := hf
      refine ax_getR fl_1018 rfl dM_mixTalk_25 e_r8 ?_
      refine ax_bipush (25 : Int32) dM_mixTalk_28 k8_25 ?_
      refine ax_iload_n (i := 1) dM_mixTalk_30 rfl rfl ?_
      refine ax_imul dM_mixTalk_31 ?_
      refine ax_iload_n (i := 2) dM_mixTalk_32 rfl rfl ?_
      refine ax_iadd dM_mixTalk_33 ?_
      replace hf := bd1_s hf
      obtain ⟨a9, e_d, hf⟩ := hf
      subst e_d
      replace hf := bd1_s hf
      obtain ⟨x10, e_x10, hf⟩ := hf
      refine ax_zald dM_mixTalk_34 e_x10 ?_
      replace hf := bd1_s hf
      obtain ⟨x11, hT, hf⟩ := hf
      have K : AW l E mi_M_mixTalk R B Qf 43 [some (va_rf (some y0)), some (.int y1), some (.int z2), none] [.long x11, va_rf (some y0)] h := by
        clear hT
        replace hf := bd1_s hf
        obtain ⟨h12, e_h12, hf⟩ := hf
        obtain ⟨k_e_h12, e_h12⟩ := cv_s e_h12
        refine ax_callV (As := [.long x11]) (rest := []) (c_M_mix e_h12) ml_1574 cm_M_mix rfl k_e_h12 (Nat.le_trans (Nat.le_of_ble_eq_true rfl) hR1) (Nat.le_trans (Nat.le_of_ble_eq_true rfl) hR2) rfl rfl (Nat.le_of_ble_eq_true rfl) dM_mixTalk_43 ?_
        refine ax_iconst (0 : Int32) dM_mixTalk_46 k32_0 ?_
        refine ax_istore_n (i := 3) [some (va_rf (some y0)), some (.int y1), some (.int z2), some (.int (0 : Int32))] dM_mixTalk_47 rfl (Nat.le_of_ble_eq_true rfl) (Or.inr (c1i rfl)) rfl ?_
        refine w_M_mixTalk_L48 hR1 hR2 (fun h18 hf => ?_) FU (0 : Int32) h12 hf
        refine ax_iinc (i := 2) (z2 + (1 : Int32)) [some (va_rf (some y0)), some (.int y1), some (.int (z2 + (1 : Int32))), none] dM_mixTalk_77 rfl (iic k32_1) (Or.inr (c1i rfl)) rfl ?_
        refine ax_goto 13 dM_mixTalk_80 (by decide) ?_
        exact ih (z2 + (1 : Int32)) h18 hf
      replace hf := hT
      clear hT
      replace hf := ite_c hf
      rcases hf with ⟨hc, hf⟩ | ⟨hc, hf⟩
      · refine ax_if_eqT 42 dM_mixTalk_35 (by decide) hc ?_
        refine ax_lconst (0 : Int64) dM_mixTalk_42 kl_0 ?_
        cases hf
        exact K
      · refine ax_if_eqF 42 dM_mixTalk_35 (by decide) hc ?_
        refine ax_lconst (1 : Int64) dM_mixTalk_38 kl_1 ?_
        refine ax_goto 43 dM_mixTalk_39 (by decide) ?_
        cases hf
        exact K
theorem v_M_mixTalk {l : Launch} {E : EN} {R : Room} {B : (Nat × Nat) × (Nat × Nat)} {Qf : QF} {h0 : AH} {o : Nat} {p1 : Int32} {hF : AH} (hR1 : 2 ≤ R.frames) (hR2 : 128 ≤ R.locals) (Hr : ∀ (pc : Nat) (L : List (Option Value)), decode mi_M_mixTalk.2.1 pc = .ok (.return_, 1) → AW l E mi_M_mixTalk R B Qf pc L [] hF) (hf : f_M_mixTalk h0 o p1 = some hF) : AW l E mi_M_mixTalk R B Qf 0 [some (va_rf (some o)), some (.int p1), none, none] [] h0 := by
  unfold f_M_mixTalk at hf
  refine ax_aload_n (i := 0) (some o) dM_mixTalk_0 rfl rfl ?_
  refine ax_aload_n (i := 0) (some o) dM_mixTalk_1 rfl rfl ?_
  replace hf := bd1_s hf
  obtain ⟨r1, e_r1, hf⟩ := hf
  refine ax_getR fl_1016 rfl dM_mixTalk_2 e_r1 ?_
  refine ax_iload_n (i := 1) dM_mixTalk_5 rfl rfl ?_
  replace hf := bd1_s hf
  obtain ⟨a2, e_d, hf⟩ := hf
  subst e_d
  replace hf := bd1_s hf
  obtain ⟨x3, e_x3, hf⟩ := hf
  refine ax_iald dM_mixTalk_6 e_x3 ?_
  refine ax_i2l dM_mixTalk_7 ?_
  replace hf := bd1_s hf
  obtain ⟨h4, e_h4, hf⟩ := hf
  obtain ⟨k_e_h4, e_h4⟩ := cv_s e_h4
  refine ax_callV (As := [.long ((x3).toInt64)]) (rest := []) (c_M_mix e_h4) ml_1574 cm_M_mix rfl k_e_h4 (Nat.le_trans (Nat.le_of_ble_eq_true rfl) hR1) (Nat.le_trans (Nat.le_of_ble_eq_true rfl) hR2) rfl rfl (Nat.le_of_ble_eq_true rfl) dM_mixTalk_8 ?_
  refine ax_iconst (0 : Int32) dM_mixTalk_11 k32_0 ?_
  refine ax_istore_n (i := 2) [some (va_rf (some o)), some (.int p1), some (.int (0 : Int32)), none] dM_mixTalk_12 rfl (Nat.le_of_ble_eq_true rfl) (Or.inr (c1i rfl)) rfl ?_
  refine w_M_mixTalk_L13 hR1 hR2 Hr FU (0 : Int32) h4 hf
theorem c_M_mixTalk {l : Launch} {E : EN} {h0 : AH} {o : Nat} {p1 : Int32} {hF : AH} (hf : f_M_mixTalk h0 o p1 = some hF) : AM l E 2 mi_M_mixTalk [va_rf (some o), .int p1] h0 none hF :=
  am_of2 [(va_rf (some o), false), (.int p1, false)] 2 ⟨cat_rf _, rfl, trivial⟩ rfl rfl (v_M_mixTalk (Nat.le_refl _) (Nat.le_refl _) (fun pc L hd => ax_vret rfl hd rfl) hf)
theorem w_M_digest_L9 {l : Launch} {E : EN} {R : Room} {B : (Nat × Nat) × (Nat × Nat)} {Qf : QF} {ρ : Type} {res : ρ} (hR1 : 4 ≤ R.frames) (hR2 : 256 ≤ R.locals) {y0 : Nat} {k : AH → Option (ρ)} (hk : ∀ (h : AH), k h = some res → AW l E mi_M_digest R B Qf 34 [some (va_rf (some y0)), none, none] [] h) : ∀ (n : Nat) (z1 : Int32) (h : AH), f_M_digest_L9 y0 k n z1 h = some res → AW l E mi_M_digest R B Qf 9 [some (va_rf (some y0)), some (.int z1), none] [] h := by
  intro n
  induction n with
  | zero => intro z1 h hf; cases hf
  | succ n ih =>
    intro z1 h hf
    rw [f_M_digest_L9] at hf
    refine ax_iload_n (i := 1) dM_digest_9 rfl rfl ?_
    refine ax_aload_n (i := 0) (some y0) dM_digest_10 rfl rfl ?_
    replace hf := bd1_s hf
    obtain ⟨x2, e_x2, hf⟩ := hf
    refine ax_getI fl_1013 rfl dM_digest_11 e_x2 ?_
    replace hf := ite_c hf
    rcases hf with ⟨hc, hf⟩ | ⟨hc, hf⟩
    · refine ax_icmp_geF 34 dM_digest_14 (by decide) hc ?_
      refine ax_aload_n (i := 0) (some y0) dM_digest_17 rfl rfl ?_
      refine ax_aload_n (i := 0) (some y0) dM_digest_18 rfl rfl ?_
      replace hf := bd1_s hf
      obtain ⟨r3, e_r3, hf⟩ := hf
      refine ax_getR fl_1014 rfl dM_digest_19 e_r3 ?_
      refine ax_iload_n (i := 1) dM_digest_22 rfl rfl ?_
      replace hf := bd1_s hf
      obtain ⟨a4, e_d, hf⟩ := hf
      subst e_d
      replace hf := bd1_s hf
      obtain ⟨x5, e_x5, hf⟩ := hf
      refine ax_bald dM_digest_23 e_x5 ?_
      refine ax_i2l dM_digest_24 ?_
      replace hf := bd1_s hf
      obtain ⟨h6, e_h6, hf⟩ := hf
      obtain ⟨k_e_h6, e_h6⟩ := cv_s e_h6
      refine ax_callV (As := [.long ((x5).toInt64)]) (rest := []) (c_M_mix e_h6) ml_1574 cm_M_mix rfl k_e_h6 (Nat.le_trans (Nat.le_of_ble_eq_true rfl) hR1) (Nat.le_trans (Nat.le_of_ble_eq_true rfl) hR2) rfl rfl (Nat.le_of_ble_eq_true rfl) dM_digest_25 ?_
      refine ax_iinc (i := 1) (z1 + (1 : Int32)) [some (va_rf (some y0)), some (.int (z1 + (1 : Int32))), none] dM_digest_28 rfl (iic k32_1) (Or.inr (c1r rfl)) rfl ?_
      refine ax_goto 9 dM_digest_31 (by decide) ?_
      exact ih (z1 + (1 : Int32)) h6 hf
    · refine ax_icmp_geT 34 dM_digest_14 (by decide) hc ?_
      refine ax_mask [true, false, true] rfl [some (va_rf (some y0)), none, none] rfl ?_
      exact hk h hf
theorem w_M_digest_L36 {l : Launch} {E : EN} {R : Room} {B : (Nat × Nat) × (Nat × Nat)} {Qf : QF} {ρ : Type} {res : ρ} (hR1 : 4 ≤ R.frames) (hR2 : 256 ≤ R.locals) {y0 : Nat} {k : AH → Option (ρ)} (hk : ∀ (h : AH), k h = some res → AW l E mi_M_digest R B Qf 55 [some (va_rf (some y0)), none, none] [] h) : ∀ (n : Nat) (z1 : Int32) (h : AH), f_M_digest_L36 y0 k n z1 h = some res → AW l E mi_M_digest R B Qf 36 [some (va_rf (some y0)), some (.int z1), none] [] h := by
  intro n
  induction n with
  | zero => intro z1 h hf; cases hf
  | succ n ih =>
    intro z1 h hf
    rw [f_M_digest_L36] at hf
    refine ax_iload_n (i := 1) dM_digest_36 rfl rfl ?_
    refine ax_aload_n (i := 0) (some y0) dM_digest_37 rfl rfl ?_
    replace hf := bd1_s hf
    obtain ⟨x8, e_x8, hf⟩ := hf
    refine ax_getI fl_1015 rfl dM_digest_38 e_x8 ?_
    replace hf := ite_c hf
    rcases hf with ⟨hc, hf⟩ | ⟨hc, hf⟩
    · refine ax_icmp_geF 55 dM_digest_41 (by decide) hc ?_
      refine ax_aload_n (i := 0) (some y0) dM_digest_44 rfl rfl ?_
      refine ax_iload_n (i := 1) dM_digest_45 rfl rfl ?_
      replace hf := bd1_s hf
      obtain ⟨h9, e_h9, hf⟩ := hf
      obtain ⟨k_e_h9, e_h9⟩ := cv_s e_h9
      refine ax_callV (As := [.int z1]) (rest := []) (c_M_mixTalk e_h9) ml_1579 cm_M_mixTalk rfl k_e_h9 (Nat.le_trans (Nat.le_of_ble_eq_true rfl) hR1) (Nat.le_trans (Nat.le_of_ble_eq_true rfl) hR2) rfl rfl (Nat.le_of_ble_eq_true rfl) dM_digest_46 ?_
      refine ax_iinc (i := 1) (z1 + (1 : Int32)) [some (va_rf (some y0)), some (.int (z1 + (1 : Int32))), none] dM_digest_49 rfl (iic k32_1) (Or.inr (c1r rfl)) rfl ?_
      refine ax_goto 36 dM_digest_52 (by decide) ?_
      exact ih (z1 + (1 : Int32)) h9 hf
    · refine ax_icmp_geT 55 dM_digest_41 (by decide) hc ?_
      refine ax_mask [true, false, true] rfl [some (va_rf (some y0)), none, none] rfl ?_
      exact hk h hf
theorem w_M_digest_L67 {l : Launch} {E : EN} {R : Room} {B : (Nat × Nat) × (Nat × Nat)} {Qf : QF} {ρ : Type} {res : ρ} (hR1 : 4 ≤ R.frames) (hR2 : 256 ≤ R.locals) {y0 : Nat} {y1 : Int32} {k : AH → Option (ρ)} (hk : ∀ (h : AH), k h = some res → AW l E mi_M_digest R B Qf 90 [some (va_rf (some y0)), some (.int y1), none] [] h) : ∀ (n : Nat) (z2 : Int32) (h : AH), f_M_digest_L67 y0 y1 k n z2 h = some res → AW l E mi_M_digest R B Qf 67 [some (va_rf (some y0)), some (.int y1), some (.int z2)] [] h := by
  intro n
  induction n with
  | zero => intro z2 h hf; cases hf
  | succ n ih =>
    intro z2 h hf
    rw [f_M_digest_L67] at hf
    refine ax_iload_n (i := 2) dM_digest_67 rfl rfl ?_
    refine ax_bipush (8 : Int32) dM_digest_68 k8_8 ?_
    replace hf := ite_c hf
    rcases hf with ⟨hc, hf⟩ | ⟨hc, hf⟩
    · refine ax_icmp_geF 90 dM_digest_70 (by decide) hc ?_
      refine ax_aload_n (i := 0) (some y0) dM_digest_73 rfl rfl ?_
      refine ax_aload_n (i := 0) (some y0) dM_digest_74 rfl rfl ?_
      refine ax_iload_n (i := 1) dM_digest_75 rfl rfl ?_
      refine ax_iload_n (i := 2) dM_digest_76 rfl rfl ?_
      replace hf := bd1_s hf
      obtain ⟨x12, e_x12, hf⟩ := hf
      obtain ⟨k_e_x12, e_x12⟩ := cv_s e_x12
      refine ax_callV (As := [.int y1, .int z2]) (rest := [va_rf (some y0)]) (c_M_aboutOf e_x12) ml_1420 cm_M_aboutOf rfl k_e_x12 (Nat.le_trans (Nat.le_of_ble_eq_true rfl) hR1) (Nat.le_trans (Nat.le_of_ble_eq_true rfl) hR2) rfl rfl (Nat.le_of_ble_eq_true rfl) dM_digest_77 ?_
      refine ax_i2l dM_digest_80 ?_
      replace hf := bd1_s hf
      obtain ⟨h13, e_h13, hf⟩ := hf
      obtain ⟨k_e_h13, e_h13⟩ := cv_s e_h13
      refine ax_callV (As := [.long ((x12).toInt64)]) (rest := []) (c_M_mix e_h13) ml_1574 cm_M_mix rfl k_e_h13 (Nat.le_trans (Nat.le_of_ble_eq_true rfl) hR1) (Nat.le_trans (Nat.le_of_ble_eq_true rfl) hR2) rfl rfl (Nat.le_of_ble_eq_true rfl) dM_digest_81 ?_
      refine ax_iinc (i := 2) (z2 + (1 : Int32)) [some (va_rf (some y0)), some (.int y1), some (.int (z2 + (1 : Int32)))] dM_digest_84 rfl (iic k32_1) (Or.inr (c1i rfl)) rfl ?_
      refine ax_goto 67 dM_digest_87 (by decide) ?_
      exact ih (z2 + (1 : Int32)) h13 hf
    · refine ax_icmp_geT 90 dM_digest_70 (by decide) hc ?_
      refine ax_mask [true, true, false] rfl [some (va_rf (some y0)), some (.int y1), none] rfl ?_
      exact hk h hf
theorem w_M_digest_L57 {l : Launch} {E : EN} {R : Room} {B : (Nat × Nat) × (Nat × Nat)} {Qf : QF} {ρ : Type} {res : ρ} (hR1 : 4 ≤ R.frames) (hR2 : 256 ≤ R.locals) {y0 : Nat} {k : AH → Option (ρ)} (hk : ∀ (h : AH), k h = some res → AW l E mi_M_digest R B Qf 96 [some (va_rf (some y0)), none, none] [] h) : ∀ (n : Nat) (z1 : Int32) (h : AH), f_M_digest_L57 y0 k n z1 h = some res → AW l E mi_M_digest R B Qf 57 [some (va_rf (some y0)), some (.int z1), none] [] h := by
  intro n
  induction n with
  | zero => intro z1 h hf; cases hf
  | succ n ih =>
    intro z1 h hf
    rw [f_M_digest_L57] at hf
    refine ax_iload_n (i := 1) dM_digest_57 rfl rfl ?_
    refine ax_aload_n (i := 0) (some y0) dM_digest_58 rfl rfl ?_
    replace hf := bd1_s hf
    obtain ⟨x11, e_x11, hf⟩ := hf
    refine ax_getI fl_1022 rfl dM_digest_59 e_x11 ?_
    replace hf := ite_c hf
    rcases hf with ⟨hc, hf⟩ | ⟨hc, hf⟩
    · refine ax_icmp_geF 96 dM_digest_62 (by decide) hc ?_
      refine ax_iconst (0 : Int32) dM_digest_65 k32_0 ?_
      refine ax_istore_n (i := 2) [some (va_rf (some y0)), some (.int z1), some (.int (0 : Int32))] dM_digest_66 rfl (Nat.le_of_ble_eq_true rfl) (Or.inr (c1i rfl)) rfl ?_
      refine w_M_digest_L67 hR1 hR2 (fun h14 hf => ?_) FU (0 : Int32) h hf
      refine ax_iinc (i := 1) (z1 + (1 : Int32)) [some (va_rf (some y0)), some (.int (z1 + (1 : Int32))), none] dM_digest_90 rfl (iic k32_1) (Or.inr (c1r rfl)) rfl ?_
      refine ax_goto 57 dM_digest_93 (by decide) ?_
      exact ih (z1 + (1 : Int32)) h14 hf
    · refine ax_icmp_geT 96 dM_digest_62 (by decide) hc ?_
      refine ax_mask [true, false, true] rfl [some (va_rf (some y0)), none, none] rfl ?_
      exact hk h hf
theorem w_M_digest_L98 {l : Launch} {E : EN} {R : Room} {B : (Nat × Nat) × (Nat × Nat)} {Qf : QF} {ρ : Type} {res : ρ} (hR1 : 4 ≤ R.frames) (hR2 : 256 ≤ R.locals) {y0 : Nat} {k : AH → Option (ρ)} (hk : ∀ (h : AH), k h = some res → AW l E mi_M_digest R B Qf 121 [some (va_rf (some y0)), none, none] [] h) : ∀ (n : Nat) (z1 : Int32) (h : AH), f_M_digest_L98 y0 k n z1 h = some res → AW l E mi_M_digest R B Qf 98 [some (va_rf (some y0)), some (.int z1), none] [] h := by
  intro n
  induction n with
  | zero => intro z1 h hf; cases hf
  | succ n ih =>
    intro z1 h hf
    rw [f_M_digest_L98] at hf
    refine ax_iload_n (i := 1) dM_digest_98 rfl rfl ?_
    refine ax_bipush (12 : Int32) dM_digest_99 k8_12 ?_
    replace hf := ite_c hf
    rcases hf with ⟨hc, hf⟩ | ⟨hc, hf⟩
    · refine ax_icmp_geF 121 dM_digest_101 (by decide) hc ?_
      refine ax_aload_n (i := 0) (some y0) dM_digest_104 rfl rfl ?_
      refine ax_aload_n (i := 0) (some y0) dM_digest_105 rfl rfl ?_
      replace hf := bd1_s hf
      obtain ⟨r16, e_r16, hf⟩ := hf
      refine ax_getR fl_1027 rfl dM_digest_106 e_r16 ?_
      refine ax_iload_n (i := 1) dM_digest_109 rfl rfl ?_
      replace hf := bd1_s hf
      obtain ⟨a17, e_d, hf⟩ := hf
      subst e_d
      replace hf := bd1_s hf
      obtain ⟨x18, e_x18, hf⟩ := hf
      refine ax_iald dM_digest_110 e_x18 ?_
      refine ax_i2l dM_digest_111 ?_
      replace hf := bd1_s hf
      obtain ⟨h19, e_h19, hf⟩ := hf
      obtain ⟨k_e_h19, e_h19⟩ := cv_s e_h19
      refine ax_callV (As := [.long ((x18).toInt64)]) (rest := []) (c_M_mix e_h19) ml_1574 cm_M_mix rfl k_e_h19 (Nat.le_trans (Nat.le_of_ble_eq_true rfl) hR1) (Nat.le_trans (Nat.le_of_ble_eq_true rfl) hR2) rfl rfl (Nat.le_of_ble_eq_true rfl) dM_digest_112 ?_
      refine ax_iinc (i := 1) (z1 + (1 : Int32)) [some (va_rf (some y0)), some (.int (z1 + (1 : Int32))), none] dM_digest_115 rfl (iic k32_1) (Or.inr (c1r rfl)) rfl ?_
      refine ax_goto 98 dM_digest_118 (by decide) ?_
      exact ih (z1 + (1 : Int32)) h19 hf
    · refine ax_icmp_geT 121 dM_digest_101 (by decide) hc ?_
      refine ax_mask [true, false, true] rfl [some (va_rf (some y0)), none, none] rfl ?_
      exact hk h hf
theorem w_M_digest_L123 {l : Launch} {E : EN} {R : Room} {B : (Nat × Nat) × (Nat × Nat)} {Qf : QF} {ρ : Type} {res : ρ} (hR1 : 4 ≤ R.frames) (hR2 : 256 ≤ R.locals) {y0 : Nat} {k : AH → Option (ρ)} (hk : ∀ (h : AH), k h = some res → AW l E mi_M_digest R B Qf 148 [some (va_rf (some y0)), none, none] [] h) : ∀ (n : Nat) (z1 : Int32) (h : AH), f_M_digest_L123 y0 k n z1 h = some res → AW l E mi_M_digest R B Qf 123 [some (va_rf (some y0)), some (.int z1), none] [] h := by
  intro n
  induction n with
  | zero => intro z1 h hf; cases hf
  | succ n ih =>
    intro z1 h hf
    rw [f_M_digest_L123] at hf
    refine ax_iload_n (i := 1) dM_digest_123 rfl rfl ?_
    refine ax_aload_n (i := 0) (some y0) dM_digest_124 rfl rfl ?_
    replace hf := bd1_s hf
    obtain ⟨x21, e_x21, hf⟩ := hf
    refine ax_getI fl_1028 rfl dM_digest_125 e_x21 ?_
    replace hf := ite_c hf
    rcases hf with ⟨hc, hf⟩ | ⟨hc, hf⟩
    · refine ax_icmp_geF 148 dM_digest_128 (by decide) hc ?_
      refine ax_aload_n (i := 0) (some y0) dM_digest_131 rfl rfl ?_
      refine ax_aload_n (i := 0) (some y0) dM_digest_132 rfl rfl ?_
      replace hf := bd1_s hf
      obtain ⟨r22, e_r22, hf⟩ := hf
      refine ax_getR fl_1029 rfl dM_digest_133 e_r22 ?_
      refine ax_iload_n (i := 1) dM_digest_136 rfl rfl ?_
      replace hf := bd1_s hf
      obtain ⟨a23, e_d, hf⟩ := hf
      subst e_d
      replace hf := bd1_s hf
      obtain ⟨x24, e_x24, hf⟩ := hf
      refine ax_iald dM_digest_137 e_x24 ?_
      refine ax_i2l dM_digest_138 ?_
      replace hf := bd1_s hf
      obtain ⟨h25, e_h25, hf⟩ := hf
      obtain ⟨k_e_h25, e_h25⟩ := cv_s e_h25
      refine ax_callV (As := [.long ((x24).toInt64)]) (rest := []) (c_M_mix e_h25) ml_1574 cm_M_mix rfl k_e_h25 (Nat.le_trans (Nat.le_of_ble_eq_true rfl) hR1) (Nat.le_trans (Nat.le_of_ble_eq_true rfl) hR2) rfl rfl (Nat.le_of_ble_eq_true rfl) dM_digest_139 ?_
      refine ax_iinc (i := 1) (z1 + (1 : Int32)) [some (va_rf (some y0)), some (.int (z1 + (1 : Int32))), none] dM_digest_142 rfl (iic k32_1) (Or.inr (c1r rfl)) rfl ?_
      refine ax_goto 123 dM_digest_145 (by decide) ?_
      exact ih (z1 + (1 : Int32)) h25 hf
    · refine ax_icmp_geT 148 dM_digest_128 (by decide) hc ?_
      refine ax_mask [true, false, true] rfl [some (va_rf (some y0)), none, none] rfl ?_
      exact hk h hf
theorem v_M_digest {l : Launch} {E : EN} {R : Room} {B : (Nat × Nat) × (Nat × Nat)} {Qf : QF} {h0 : AH} {o : Nat} {r : Int64} {hF : AH} (hR1 : 4 ≤ R.frames) (hR2 : 256 ≤ R.locals) (Hr : ∀ (pc : Nat) (L : List (Option Value)), decode mi_M_digest.2.1 pc = .ok (.lreturn, 1) → AW l E mi_M_digest R B Qf pc L [.long r] hF) (hf : f_M_digest h0 o = some (r, hF)) : AW l E mi_M_digest R B Qf 0 [some (va_rf (some o)), none, none] [] h0 := by
  unfold f_M_digest at hf
  refine ax_aload_n (i := 0) (some o) dM_digest_0 rfl rfl ?_
  refine ax_ldc2 w_1573 dM_digest_1 ?_
  replace hf := bd1_s hf
  obtain ⟨h1, e_h1, hf⟩ := hf
  refine ax_putJ fw_1070 rfl rfl dM_digest_4 e_h1 ?_
  refine ax_iconst (0 : Int32) dM_digest_7 k32_0 ?_
  refine ax_istore_n (i := 1) [some (va_rf (some o)), some (.int (0 : Int32)), none] dM_digest_8 rfl (Nat.le_of_ble_eq_true rfl) (Or.inr (c1r rfl)) rfl ?_
  refine w_M_digest_L9 hR1 hR2 (fun h7 hf => ?_) FU (0 : Int32) h1 hf
  refine ax_iconst (0 : Int32) dM_digest_34 k32_0 ?_
  refine ax_istore_n (i := 1) [some (va_rf (some o)), some (.int (0 : Int32)), none] dM_digest_35 rfl (Nat.le_of_ble_eq_true rfl) (Or.inr (c1r rfl)) rfl ?_
  refine w_M_digest_L36 hR1 hR2 (fun h10 hf => ?_) FU (0 : Int32) h7 hf
  refine ax_iconst (0 : Int32) dM_digest_55 k32_0 ?_
  refine ax_istore_n (i := 1) [some (va_rf (some o)), some (.int (0 : Int32)), none] dM_digest_56 rfl (Nat.le_of_ble_eq_true rfl) (Or.inr (c1r rfl)) rfl ?_
  refine w_M_digest_L57 hR1 hR2 (fun h15 hf => ?_) FU (0 : Int32) h10 hf
  refine ax_iconst (0 : Int32) dM_digest_96 k32_0 ?_
  refine ax_istore_n (i := 1) [some (va_rf (some o)), some (.int (0 : Int32)), none] dM_digest_97 rfl (Nat.le_of_ble_eq_true rfl) (Or.inr (c1r rfl)) rfl ?_
  refine w_M_digest_L98 hR1 hR2 (fun h20 hf => ?_) FU (0 : Int32) h15 hf
  refine ax_iconst (0 : Int32) dM_digest_121 k32_0 ?_
  refine ax_istore_n (i := 1) [some (va_rf (some o)), some (.int (0 : Int32)), none] dM_digest_122 rfl (Nat.le_of_ble_eq_true rfl) (Or.inr (c1r rfl)) rfl ?_
  refine w_M_digest_L123 hR1 hR2 (fun h26 hf => ?_) FU (0 : Int32) h20 hf
  refine ax_aload_n (i := 0) (some o) dM_digest_148 rfl rfl ?_
  refine ax_aload_n (i := 0) (some o) dM_digest_149 rfl rfl ?_
  replace hf := bd1_s hf
  obtain ⟨x27, e_x27, hf⟩ := hf
  refine ax_getI fl_1031 rfl dM_digest_150 e_x27 ?_
  refine ax_i2l dM_digest_153 ?_
  replace hf := bd1_s hf
  obtain ⟨h28, e_h28, hf⟩ := hf
  obtain ⟨k_e_h28, e_h28⟩ := cv_s e_h28
  refine ax_callV (As := [.long ((x27).toInt64)]) (rest := []) (c_M_mix e_h28) ml_1574 cm_M_mix rfl k_e_h28 (Nat.le_trans (Nat.le_of_ble_eq_true rfl) hR1) (Nat.le_trans (Nat.le_of_ble_eq_true rfl) hR2) rfl rfl (Nat.le_of_ble_eq_true rfl) dM_digest_154 ?_
  refine ax_aload_n (i := 0) (some o) dM_digest_157 rfl rfl ?_
  refine ax_aload_n (i := 0) (some o) dM_digest_158 rfl rfl ?_
  refine ax_aload_n (i := 0) (some o) dM_digest_159 rfl rfl ?_
  replace hf := bd1_s hf
  obtain ⟨x29, e_x29, hf⟩ := hf
  refine ax_getI fl_1031 rfl dM_digest_160 e_x29 ?_
  replace hf := bd2_s hf
  obtain ⟨x30, h31, e_x30, hf⟩ := hf
  obtain ⟨k_e_x30, e_x30⟩ := cv_s e_x30
  refine ax_callV (As := [.int x29]) (rest := [va_rf (some o)]) (c_M_passAll e_x30) ml_1533 cm_M_passAll rfl k_e_x30 (Nat.le_trans (Nat.le_of_ble_eq_true rfl) hR1) (Nat.le_trans (Nat.le_of_ble_eq_true rfl) hR2) rfl rfl (Nat.le_of_ble_eq_true rfl) dM_digest_163 ?_
  refine ax_i2l dM_digest_166 ?_
  replace hf := bd1_s hf
  obtain ⟨h32, e_h32, hf⟩ := hf
  obtain ⟨k_e_h32, e_h32⟩ := cv_s e_h32
  refine ax_callV (As := [.long ((x30).toInt64)]) (rest := []) (c_M_mix e_h32) ml_1574 cm_M_mix rfl k_e_h32 (Nat.le_trans (Nat.le_of_ble_eq_true rfl) hR1) (Nat.le_trans (Nat.le_of_ble_eq_true rfl) hR2) rfl rfl (Nat.le_of_ble_eq_true rfl) dM_digest_167 ?_
  refine ax_aload_n (i := 0) (some o) dM_digest_170 rfl rfl ?_
  refine ax_aload_n (i := 0) (some o) dM_digest_171 rfl rfl ?_
  replace hf := bd1_s hf
  obtain ⟨x33, e_x33, hf⟩ := hf
  refine ax_getI fl_1019 rfl dM_digest_172 e_x33 ?_
  refine ax_i2l dM_digest_175 ?_
  replace hf := bd1_s hf
  obtain ⟨h34, e_h34, hf⟩ := hf
  obtain ⟨k_e_h34, e_h34⟩ := cv_s e_h34
  refine ax_callV (As := [.long ((x33).toInt64)]) (rest := []) (c_M_mix e_h34) ml_1574 cm_M_mix rfl k_e_h34 (Nat.le_trans (Nat.le_of_ble_eq_true rfl) hR1) (Nat.le_trans (Nat.le_of_ble_eq_true rfl) hR2) rfl rfl (Nat.le_of_ble_eq_true rfl) dM_digest_176 ?_
  refine ax_aload_n (i := 0) (some o) dM_digest_179 rfl rfl ?_
  refine ax_aload_n (i := 0) (some o) dM_digest_180 rfl rfl ?_
  replace hf := bd1_s hf
  obtain ⟨x35, e_x35, hf⟩ := hf
  refine ax_getI fl_1020 rfl dM_digest_181 e_x35 ?_
  refine ax_i2l dM_digest_184 ?_
  replace hf := bd1_s hf
  obtain ⟨h36, e_h36, hf⟩ := hf
  obtain ⟨k_e_h36, e_h36⟩ := cv_s e_h36
  refine ax_callV (As := [.long ((x35).toInt64)]) (rest := []) (c_M_mix e_h36) ml_1574 cm_M_mix rfl k_e_h36 (Nat.le_trans (Nat.le_of_ble_eq_true rfl) hR1) (Nat.le_trans (Nat.le_of_ble_eq_true rfl) hR2) rfl rfl (Nat.le_of_ble_eq_true rfl) dM_digest_185 ?_
  refine ax_aload_n (i := 0) (some o) dM_digest_188 rfl rfl ?_
  refine ax_aload_n (i := 0) (some o) dM_digest_189 rfl rfl ?_
  replace hf := bd1_s hf
  obtain ⟨x37, e_x37, hf⟩ := hf
  refine ax_getI fl_1021 rfl dM_digest_190 e_x37 ?_
  refine ax_i2l dM_digest_193 ?_
  replace hf := bd1_s hf
  obtain ⟨h38, e_h38, hf⟩ := hf
  obtain ⟨k_e_h38, e_h38⟩ := cv_s e_h38
  refine ax_callV (As := [.long ((x37).toInt64)]) (rest := []) (c_M_mix e_h38) ml_1574 cm_M_mix rfl k_e_h38 (Nat.le_trans (Nat.le_of_ble_eq_true rfl) hR1) (Nat.le_trans (Nat.le_of_ble_eq_true rfl) hR2) rfl rfl (Nat.le_of_ble_eq_true rfl) dM_digest_194 ?_
  refine ax_aload_n (i := 0) (some o) dM_digest_197 rfl rfl ?_
  replace hf := bd1_s hf
  obtain ⟨x39, e_x39, hf⟩ := hf
  refine ax_getJ fl_1070 rfl dM_digest_198 e_x39 ?_
  cases hf
  exact Hr _ _ dM_digest_201
theorem c_M_digest {l : Launch} {E : EN} {h0 : AH} {o : Nat} {r : Int64} {hF : AH} (hf : f_M_digest h0 o = some (r, hF)) : AM l E 4 mi_M_digest [va_rf (some o)] h0 (some (.long r)) hF :=
  am_of2 [(va_rf (some o), false)] 2 ⟨cat_rf _, trivial⟩ rfl rfl (v_M_digest (Nat.le_refl _) (Nat.le_refl _) (fun pc L hd => ax_lret rfl hd rfl) hf)
