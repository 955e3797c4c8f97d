theorem v_Le_init {l : Launch} {E : EN} {R : Room} {B : (Nat × Nat) × (Nat × Nat)} {Qf : QF} {h0 : AH} {o : Nat} (hR1 : 1 ≤ R.frames) (hR2 : 64 ≤ R.locals) (Hr : ∀ (pc : Nat) (L : List (Option Value)), decode mi_Le_init.2.1 pc = .ok (.return_, 1) → AW l E mi_Le_init R B Qf pc L [] h0) (hf : f_Le_init h0 o = some ()) : AW l E mi_Le_init R B Qf 0 [some (va_rf (some o))] [] h0 := by
  unfold f_Le_init at hf
  refine ax_aload_n (i := 0) (some o) dLe_init_0 rfl rfl ?_
  refine ax_objInit w_39 w_obi w_obc (Nat.le_trans (Nat.le_of_ble_eq_true rfl) hR1) (Nat.le_trans (Nat.le_of_ble_eq_true rfl) hR2) (Nat.le_of_ble_eq_true rfl) dLe_init_1 ?_
  cases hf
  exact Hr _ _ dLe_init_4
theorem c_Le_init {l : Launch} {E : EN} {h0 : AH} {o : Nat} (hf : f_Le_init h0 o = some ()) : AM l E 1 mi_Le_init [va_rf (some o)] h0 none h0 :=
  am_of2 [(va_rf (some o), false)] 0 ⟨cat_rf _, trivial⟩ rfl rfl (v_Le_init (Nat.le_refl _) (Nat.le_refl _) (fun pc L hd => ax_vret rfl hd rfl) hf)
theorem w_Pa_init_L44 {l : Launch} {E : EN} {R : Room} {B : (Nat × Nat) × (Nat × Nat)} {Qf : QF} {hF : AH} (hR1 : 2 ≤ R.frames) (hR2 : 128 ≤ R.locals) (Hr : ∀ (pc : Nat) (L : List (Option Value)), decode mi_Pa_init.2.1 pc = .ok (.return_, 1) → AW l E mi_Pa_init R B Qf pc L [] hF) {y0 : Nat} : ∀ (n : Nat) (z1 : Int32) (h : AH), f_Pa_init_L44 y0 n z1 h = some hF → AW l E mi_Pa_init R B Qf 44 [some (va_rf (some y0)), some (.int z1)] [] h := by
  intro n
  induction n with
  | zero => intro z1 h hf; cases hf
  | succ n ih =>
    intro z1 h hf
    rw [f_Pa_init_L44] at hf
    refine ax_iload_n (i := 1) dPa_init_44 rfl rfl ?_
    refine ax_aload_n (i := 0) (some y0) dPa_init_45 rfl rfl ?_
    replace hf := bd1_s hf
    obtain ⟨r10, e_r10, hf⟩ := hf
    refine ax_getR fl_82 rfl dPa_init_46 e_r10 ?_
    replace hf := bd1_s hf
    obtain ⟨a11, e_d, hf⟩ := hf
    subst e_d
    replace hf := bd1_s hf
    obtain ⟨x12, e_x12, hf⟩ := hf
    refine ax_alen (d := 15) (by decide) rfl dPa_init_49 e_x12 ?_
    replace hf := ite_c hf
    rcases hf with ⟨hc, hf⟩ | ⟨hc, hf⟩
    · refine ax_icmp_geF 72 dPa_init_50 (by decide) hc ?_
      refine ax_aload_n (i := 0) (some y0) dPa_init_53 rfl rfl ?_
      replace hf := bd1_s hf
      obtain ⟨r13, e_r13, hf⟩ := hf
      refine ax_getR fl_82 rfl dPa_init_54 e_r13 ?_
      refine ax_iload_n (i := 1) dPa_init_57 rfl rfl ?_
      refine ax_new (ci := 5) rfl rfl w_33 dPa_init_58 ?_
      refine ax_dup dPa_init_61 rfl ?_
      replace hf := bd1_s hf
      obtain ⟨u15, e_u15, hf⟩ := hf
      refine ax_callI (As := []) (rest := [va_rf (some (hM h)), .int z1, va_rf r13]) rfl (c_Le_init e_u15) ml_36 cm_Le_init (Nat.le_trans (Nat.le_of_ble_eq_true rfl) hR1) (Nat.le_trans (Nat.le_of_ble_eq_true rfl) hR2) rfl rfl (by simp only [List.map_cons, List.map_nil, List.sum_cons, List.sum_nil, cat_rf]; exact Nat.le_of_ble_eq_true rfl) dPa_init_62 ?_
      replace hf := bd1_s hf
      obtain ⟨a16, e_d, hf⟩ := hf
      subst e_d
      replace hf := bd1_s hf
      obtain ⟨h17, e_h17, hf⟩ := hf
      refine ax_aast (c := 5) (by decide) rfl rfl rfl dPa_init_65 e_h17 ?_
      refine ax_iinc (i := 1) (z1 + (1 : Int32)) [some (va_rf (some y0)), some (.int (z1 + (1 : Int32)))] dPa_init_66 rfl (iic k32_1) (Or.inr (c1r rfl)) rfl ?_
      refine ax_goto 44 dPa_init_69 (by decide) ?_
      exact ih (z1 + (1 : Int32)) h17 hf
    · refine ax_icmp_geT 72 dPa_init_50 (by decide) hc ?_
      cases hf
      exact Hr _ _ dPa_init_72
theorem v_Pa_init {l : Launch} {E : EN} {R : Room} {B : (Nat × Nat) × (Nat × Nat)} {Qf : QF} {h0 : AH} {o : Nat} {hF : AH} (hR1 : 2 ≤ R.frames) (hR2 : 128 ≤ R.locals) (Hr : ∀ (pc : Nat) (L : List (Option Value)), decode mi_Pa_init.2.1 pc = .ok (.return_, 1) → AW l E mi_Pa_init R B Qf pc L [] hF) (hf : f_Pa_init h0 o = some hF) : AW l E mi_Pa_init R B Qf 0 [some (va_rf (some o)), none] [] h0 := by
  unfold f_Pa_init at hf
  refine ax_aload_n (i := 0) (some o) dPa_init_0 rfl rfl ?_
  refine ax_objInit w_32 w_obi w_obc (Nat.le_trans (Nat.le_of_ble_eq_true rfl) hR1) (Nat.le_trans (Nat.le_of_ble_eq_true rfl) hR2) (Nat.le_of_ble_eq_true rfl) dPa_init_1 ?_
  refine ax_aload_n (i := 0) (some o) dPa_init_4 rfl rfl ?_
  refine ax_bipush (80 : Int32) dPa_init_5 k8_80 ?_
  replace hf := bd1_s hf
  obtain ⟨h1, e_h1, hf⟩ := hf
  refine ax_newa (d := 1) (Or.inl rfl) rfl w_ac1 dPa_init_7 e_h1 ?_
  replace hf := bd1_s hf
  obtain ⟨h2, e_h2, hf⟩ := hf
  refine ax_putR (v := (some (hM h0))) fw_78 rfl rfl dPa_init_9 e_h2 ?_
  refine ax_aload_n (i := 0) (some o) dPa_init_12 rfl rfl ?_
  refine ax_bipush (81 : Int32) dPa_init_13 k8_81 ?_
  replace hf := bd1_s hf
  obtain ⟨h3, e_h3, hf⟩ := hf
  refine ax_anew (c := 5) (by decide) rfl rfl (by decide) w_33 dPa_init_15 e_h3 ?_
  replace hf := bd1_s hf
  obtain ⟨h4, e_h4, hf⟩ := hf
  refine ax_putR (v := (some (hM h2))) fw_82 rfl rfl dPa_init_18 e_h4 ?_
  refine ax_aload_n (i := 0) (some o) dPa_init_21 rfl rfl ?_
  refine ax_bipush (41 : Int32) dPa_init_22 k8_41 ?_
  replace hf := bd1_s hf
  obtain ⟨h5, e_h5, hf⟩ := hf
  refine ax_newa (d := 1) (Or.inl rfl) rfl w_ac1 dPa_init_24 e_h5 ?_
  replace hf := bd1_s hf
  obtain ⟨h6, e_h6, hf⟩ := hf
  refine ax_putR (v := (some (hM h4))) fw_87 rfl rfl dPa_init_26 e_h6 ?_
  refine ax_aload_n (i := 0) (some o) dPa_init_29 rfl rfl ?_
  refine ax_bipush (41 : Int32) dPa_init_30 k8_41 ?_
  replace hf := bd1_s hf
  obtain ⟨h7, e_h7, hf⟩ := hf
  refine ax_newa (d := 4) (Or.inr (Or.inr (Or.inr rfl))) rfl w_ac4 dPa_init_32 e_h7 ?_
  replace hf := bd1_s hf
  obtain ⟨h8, e_h8, hf⟩ := hf
  refine ax_putR (v := (some (hM h6))) fw_89 rfl rfl dPa_init_34 e_h8 ?_
  refine ax_aload_n (i := 0) (some o) dPa_init_37 rfl rfl ?_
  refine ax_iconst (-1 : Int32) dPa_init_38 k32_m1 ?_
  replace hf := bd1_s hf
  obtain ⟨h9, e_h9, hf⟩ := hf
  refine ax_putI fw_90 rfl rfl dPa_init_39 e_h9 ?_
  refine ax_iconst (0 : Int32) dPa_init_42 k32_0 ?_
  refine ax_istore_n (i := 1) [some (va_rf (some o)), some (.int (0 : Int32))] dPa_init_43 rfl (Nat.le_of_ble_eq_true rfl) (Or.inr (c1r rfl)) rfl ?_
  refine w_Pa_init_L44 hR1 hR2 Hr FU (0 : Int32) h9 hf
theorem c_Pa_init {l : Launch} {E : EN} {h0 : AH} {o : Nat} {hF : AH} (hf : f_Pa_init h0 o = some hF) : AM l E 2 mi_Pa_init [va_rf (some o)] h0 none hF :=
  am_of2 [(va_rf (some o), false)] 1 ⟨cat_rf _, trivial⟩ rfl rfl (v_Pa_init (Nat.le_refl _) (Nat.le_refl _) (fun pc L hd => ax_vret rfl hd rfl) hf)
theorem v_Wa_init {l : Launch} {E : EN} {R : Room} {B : (Nat × Nat) × (Nat × Nat)} {Qf : QF} {h0 : AH} {o : Nat} {hF : AH} (hR1 : 1 ≤ R.frames) (hR2 : 64 ≤ R.locals) (Hr : ∀ (pc : Nat) (L : List (Option Value)), decode mi_Wa_init.2.1 pc = .ok (.return_, 1) → AW l E mi_Wa_init R B Qf pc L [] hF) (hf : f_Wa_init h0 o = some hF) : AW l E mi_Wa_init R B Qf 0 [some (va_rf (some o))] [] h0 := by
  unfold f_Wa_init at hf
  refine ax_aload_n (i := 0) (some o) dWa_init_0 rfl rfl ?_
  refine ax_objInit w_115 w_obi w_obc (Nat.le_trans (Nat.le_of_ble_eq_true rfl) hR1) (Nat.le_trans (Nat.le_of_ble_eq_true rfl) hR2) (Nat.le_of_ble_eq_true rfl) dWa_init_1 ?_
  refine ax_aload_n (i := 0) (some o) dWa_init_4 rfl rfl ?_
  refine ax_sipush (4000 : Int32) dWa_init_5 k16_4000 ?_
  replace hf := bd1_s hf
  obtain ⟨h1, e_h1, hf⟩ := hf
  refine ax_newa (d := 1) (Or.inl rfl) rfl w_ac1 dWa_init_8 e_h1 ?_
  replace hf := bd1_s hf
  obtain ⟨h2, e_h2, hf⟩ := hf
  refine ax_putR (v := (some (hM h0))) fw_116 rfl rfl dWa_init_10 e_h2 ?_
  refine ax_aload_n (i := 0) (some o) dWa_init_13 rfl rfl ?_
  refine ax_sipush (4000 : Int32) dWa_init_14 k16_4000 ?_
  replace hf := bd1_s hf
  obtain ⟨h3, e_h3, hf⟩ := hf
  refine ax_newa (d := 1) (Or.inl rfl) rfl w_ac1 dWa_init_17 e_h3 ?_
  replace hf := bd1_s hf
  obtain ⟨h4, e_h4, hf⟩ := hf
  refine ax_putR (v := (some (hM h2))) fw_117 rfl rfl dWa_init_19 e_h4 ?_
  refine ax_aload_n (i := 0) (some o) dWa_init_22 rfl rfl ?_
  refine ax_sipush (4000 : Int32) dWa_init_23 k16_4000 ?_
  replace hf := bd1_s hf
  obtain ⟨h5, e_h5, hf⟩ := hf
  refine ax_newa (d := 1) (Or.inl rfl) rfl w_ac1 dWa_init_26 e_h5 ?_
  replace hf := bd1_s hf
  obtain ⟨h6, e_h6, hf⟩ := hf
  refine ax_putR (v := (some (hM h4))) fw_118 rfl rfl dWa_init_28 e_h6 ?_
  refine ax_aload_n (i := 0) (some o) dWa_init_31 rfl rfl ?_
  refine ax_sipush (8192 : Int32) dWa_init_32 k16_8192 ?_
  replace hf := bd1_s hf
  obtain ⟨h7, e_h7, hf⟩ := hf
  refine ax_newa (d := 1) (Or.inl rfl) rfl w_ac1 dWa_init_35 e_h7 ?_
  replace hf := bd1_s hf
  obtain ⟨h8, e_h8, hf⟩ := hf
  refine ax_putR (v := (some (hM h6))) fw_121 rfl rfl dWa_init_37 e_h8 ?_
  refine ax_aload_n (i := 0) (some o) dWa_init_40 rfl rfl ?_
  refine ax_sipush (4000 : Int32) dWa_init_41 k16_4000 ?_
  replace hf := bd1_s hf
  obtain ⟨h9, e_h9, hf⟩ := hf
  refine ax_newa (d := 1) (Or.inl rfl) rfl w_ac1 dWa_init_44 e_h9 ?_
  replace hf := bd1_s hf
  obtain ⟨h10, e_h10, hf⟩ := hf
  refine ax_putR (v := (some (hM h8))) fw_123 rfl rfl dWa_init_46 e_h10 ?_
  cases hf
  exact Hr _ _ dWa_init_49
theorem c_Wa_init {l : Launch} {E : EN} {h0 : AH} {o : Nat} {hF : AH} (hf : f_Wa_init h0 o = some hF) : AM l E 1 mi_Wa_init [va_rf (some o)] h0 none hF :=
  am_of2 [(va_rf (some o), false)] 0 ⟨cat_rf _, trivial⟩ rfl rfl (v_Wa_init (Nat.le_refl _) (Nat.le_refl _) (fun pc L hd => ax_vret rfl hd rfl) hf)
theorem v_Fi_init {l : Launch} {E : EN} {R : Room} {B : (Nat × Nat) × (Nat × Nat)} {Qf : QF} {h0 : AH} {o : Nat} {hF : AH} (hR1 : 1 ≤ R.frames) (hR2 : 64 ≤ R.locals) (Hr : ∀ (pc : Nat) (L : List (Option Value)), decode mi_Fi_init.2.1 pc = .ok (.return_, 1) → AW l E mi_Fi_init R B Qf pc L [] hF) (hf : f_Fi_init h0 o = some hF) : AW l E mi_Fi_init R B Qf 0 [some (va_rf (some o))] [] h0 := by
  unfold f_Fi_init at hf
  refine ax_aload_n (i := 0) (some o) dFi_init_0 rfl rfl ?_
  refine ax_objInit w_156 w_obi w_obc (Nat.le_trans (Nat.le_of_ble_eq_true rfl) hR1) (Nat.le_trans (Nat.le_of_ble_eq_true rfl) hR2) (Nat.le_of_ble_eq_true rfl) dFi_init_1 ?_
  refine ax_aload_n (i := 0) (some o) dFi_init_4 rfl rfl ?_
  refine ax_bipush (25 : Int32) dFi_init_5 k8_25 ?_
  replace hf := bd1_s hf
  obtain ⟨h1, e_h1, hf⟩ := hf
  refine ax_newa (d := 1) (Or.inl rfl) rfl w_ac1 dFi_init_7 e_h1 ?_
  replace hf := bd1_s hf
  obtain ⟨h2, e_h2, hf⟩ := hf
  refine ax_putR (v := (some (hM h0))) fw_157 rfl rfl dFi_init_9 e_h2 ?_
  cases hf
  exact Hr _ _ dFi_init_12
theorem c_Fi_init {l : Launch} {E : EN} {h0 : AH} {o : Nat} {hF : AH} (hf : f_Fi_init h0 o = some hF) : AM l E 1 mi_Fi_init [va_rf (some o)] h0 none hF :=
  am_of2 [(va_rf (some o), false)] 0 ⟨cat_rf _, trivial⟩ rfl rfl (v_Fi_init (Nat.le_refl _) (Nat.le_refl _) (fun pc L hd => ax_vret rfl hd rfl) hf)
theorem v_Ad_init {l : Launch} {E : EN} {R : Room} {B : (Nat × Nat) × (Nat × Nat)} {Qf : QF} {h0 : AH} {o : Nat} {hF : AH} (hR1 : 1 ≤ R.frames) (hR2 : 64 ≤ R.locals) (Hr : ∀ (pc : Nat) (L : List (Option Value)), decode mi_Ad_init.2.1 pc = .ok (.return_, 1) → AW l E mi_Ad_init R B Qf pc L [] hF) (hf : f_Ad_init h0 o = some hF) : AW l E mi_Ad_init R B Qf 0 [some (va_rf (some o))] [] h0 := by
  unfold f_Ad_init at hf
  refine ax_aload_n (i := 0) (some o) dAd_init_0 rfl rfl ?_
  refine ax_objInit w_172 w_obi w_obc (Nat.le_trans (Nat.le_of_ble_eq_true rfl) hR1) (Nat.le_trans (Nat.le_of_ble_eq_true rfl) hR2) (Nat.le_of_ble_eq_true rfl) dAd_init_1 ?_
  refine ax_aload_n (i := 0) (some o) dAd_init_4 rfl rfl ?_
  refine ax_sipush (6720 : Int32) dAd_init_5 k16_6720 ?_
  replace hf := bd1_s hf
  obtain ⟨h1, e_h1, hf⟩ := hf
  refine ax_newa (d := 1) (Or.inl rfl) rfl w_ac1 dAd_init_8 e_h1 ?_
  replace hf := bd1_s hf
  obtain ⟨h2, e_h2, hf⟩ := hf
  refine ax_putR (v := (some (hM h0))) fw_173 rfl rfl dAd_init_10 e_h2 ?_
  refine ax_aload_n (i := 0) (some o) dAd_init_13 rfl rfl ?_
  refine ax_iconst (5 : Int32) dAd_init_14 k32_5 ?_
  replace hf := bd1_s hf
  obtain ⟨h3, e_h3, hf⟩ := hf
  refine ax_newa (d := 1) (Or.inl rfl) rfl w_ac1 dAd_init_15 e_h3 ?_
  replace hf := bd1_s hf
  obtain ⟨h4, e_h4, hf⟩ := hf
  refine ax_putR (v := (some (hM h2))) fw_178 rfl rfl dAd_init_17 e_h4 ?_
  refine ax_aload_n (i := 0) (some o) dAd_init_20 rfl rfl ?_
  refine ax_bipush (8 : Int32) dAd_init_21 k8_8 ?_
  replace hf := bd1_s hf
  obtain ⟨h5, e_h5, hf⟩ := hf
  refine ax_newa (d := 1) (Or.inl rfl) rfl w_ac1 dAd_init_23 e_h5 ?_
  replace hf := bd1_s hf
  obtain ⟨h6, e_h6, hf⟩ := hf
  refine ax_putR (v := (some (hM h4))) fw_180 rfl rfl dAd_init_25 e_h6 ?_
  refine ax_aload_n (i := 0) (some o) dAd_init_28 rfl rfl ?_
  refine ax_bipush (8 : Int32) dAd_init_29 k8_8 ?_
  replace hf := bd1_s hf
  obtain ⟨h7, e_h7, hf⟩ := hf
  refine ax_newa (d := 1) (Or.inl rfl) rfl w_ac1 dAd_init_31 e_h7 ?_
  replace hf := bd1_s hf
  obtain ⟨h8, e_h8, hf⟩ := hf
  refine ax_putR (v := (some (hM h6))) fw_181 rfl rfl dAd_init_33 e_h8 ?_
  refine ax_aload_n (i := 0) (some o) dAd_init_36 rfl rfl ?_
  refine ax_bipush (25 : Int32) dAd_init_37 k8_25 ?_
  replace hf := bd1_s hf
  obtain ⟨h9, e_h9, hf⟩ := hf
  refine ax_newa (d := 1) (Or.inl rfl) rfl w_ac1 dAd_init_39 e_h9 ?_
  replace hf := bd1_s hf
  obtain ⟨h10, e_h10, hf⟩ := hf
  refine ax_putR (v := (some (hM h8))) fw_182 rfl rfl dAd_init_41 e_h10 ?_
  refine ax_aload_n (i := 0) (some o) dAd_init_44 rfl rfl ?_
  refine ax_sipush (625 : Int32) dAd_init_45 k16_625 ?_
  replace hf := bd1_s hf
  obtain ⟨h11, e_h11, hf⟩ := hf
  refine ax_newa (d := 1) (Or.inl rfl) rfl w_ac1 dAd_init_48 e_h11 ?_
  replace hf := bd1_s hf
  obtain ⟨h12, e_h12, hf⟩ := hf
  refine ax_putR (v := (some (hM h10))) fw_183 rfl rfl dAd_init_50 e_h12 ?_
  cases hf
  exact Hr _ _ dAd_init_53
theorem c_Ad_init {l : Launch} {E : EN} {h0 : AH} {o : Nat} {hF : AH} (hf : f_Ad_init h0 o = some hF) : AM l E 1 mi_Ad_init [va_rf (some o)] h0 none hF :=
  am_of2 [(va_rf (some o), false)] 0 ⟨cat_rf _, trivial⟩ rfl rfl (v_Ad_init (Nat.le_refl _) (Nat.le_refl _) (fun pc L hd => ax_vret rfl hd rfl) hf)
theorem v_Go_init {l : Launch} {E : EN} {R : Room} {B : (Nat × Nat) × (Nat × Nat)} {Qf : QF} {h0 : AH} {o : Nat} {hF : AH} (hR1 : 1 ≤ R.frames) (hR2 : 64 ≤ R.locals) (Hr : ∀ (pc : Nat) (L : List (Option Value)), decode mi_Go_init.2.1 pc = .ok (.return_, 1) → AW l E mi_Go_init R B Qf pc L [] hF) (hf : f_Go_init h0 o = some hF) : AW l E mi_Go_init R B Qf 0 [some (va_rf (some o))] [] h0 := by
  unfold f_Go_init at hf
  refine ax_aload_n (i := 0) (some o) dGo_init_0 rfl rfl ?_
  refine ax_objInit w_222 w_obi w_obc (Nat.le_trans (Nat.le_of_ble_eq_true rfl) hR1) (Nat.le_trans (Nat.le_of_ble_eq_true rfl) hR2) (Nat.le_of_ble_eq_true rfl) dGo_init_1 ?_
  refine ax_aload_n (i := 0) (some o) dGo_init_4 rfl rfl ?_
  refine ax_bipush (12 : Int32) dGo_init_5 k8_12 ?_
  replace hf := bd1_s hf
  obtain ⟨h1, e_h1, hf⟩ := hf
  refine ax_newa (d := 1) (Or.inl rfl) rfl w_ac1 dGo_init_7 e_h1 ?_
  replace hf := bd1_s hf
  obtain ⟨h2, e_h2, hf⟩ := hf
  refine ax_putR (v := (some (hM h0))) fw_226 rfl rfl dGo_init_9 e_h2 ?_
  refine ax_aload_n (i := 0) (some o) dGo_init_12 rfl rfl ?_
  refine ax_bipush (8 : Int32) dGo_init_13 k8_8 ?_
  replace hf := bd1_s hf
  obtain ⟨h3, e_h3, hf⟩ := hf
  refine ax_newa (d := 1) (Or.inl rfl) rfl w_ac1 dGo_init_15 e_h3 ?_
  replace hf := bd1_s hf
  obtain ⟨h4, e_h4, hf⟩ := hf
  refine ax_putR (v := (some (hM h2))) fw_228 rfl rfl dGo_init_17 e_h4 ?_
  cases hf
  exact Hr _ _ dGo_init_20
theorem c_Go_init {l : Launch} {E : EN} {h0 : AH} {o : Nat} {hF : AH} (hf : f_Go_init h0 o = some hF) : AM l E 1 mi_Go_init [va_rf (some o)] h0 none hF :=
  am_of2 [(va_rf (some o), false)] 0 ⟨cat_rf _, trivial⟩ rfl rfl (v_Go_init (Nat.le_refl _) (Nat.le_refl _) (fun pc L hd => ax_vret rfl hd rfl) hf)
theorem w_Ro_init_L64 {l : Launch} {E : EN} {R : Room} {B : (Nat × Nat) × (Nat × Nat)} {Qf : QF} {hF : AH} (hR1 : 2 ≤ R.frames) (hR2 : 128 ≤ R.locals) (Hr : ∀ (pc : Nat) (L : List (Option Value)), decode mi_Ro_init.2.1 pc = .ok (.return_, 1) → AW l E mi_Ro_init R B Qf pc L [] hF) {y0 : Nat} : ∀ (n : Nat) (z1 : Int32) (h : AH), f_Ro_init_L64 y0 n z1 h = some hF → AW l E mi_Ro_init R B Qf 64 [some (va_rf (some y0)), some (.int z1)] [] h := by
  intro n
  induction n with
  | zero => intro z1 h hf; cases hf
  | succ n ih =>
    intro z1 h hf
    rw [f_Ro_init_L64] at hf
    refine ax_iload_n (i := 1) dRo_init_64 rfl rfl ?_
    refine ax_aload_n (i := 0) (some y0) dRo_init_65 rfl rfl ?_
    replace hf := bd1_s hf
    obtain ⟨r16, e_r16, hf⟩ := hf
    refine ax_getR fl_246 rfl dRo_init_66 e_r16 ?_
    replace hf := bd1_s hf
    obtain ⟨a17, e_d, hf⟩ := hf
    subst e_d
    replace hf := bd1_s hf
    obtain ⟨x18, e_x18, hf⟩ := hf
    refine ax_alen (d := 13) (by decide) rfl dRo_init_69 e_x18 ?_
    replace hf := ite_c hf
    rcases hf with ⟨hc, hf⟩ | ⟨hc, hf⟩
    · refine ax_icmp_geF 92 dRo_init_70 (by decide) hc ?_
      refine ax_aload_n (i := 0) (some y0) dRo_init_73 rfl rfl ?_
      replace hf := bd1_s hf
      obtain ⟨r19, e_r19, hf⟩ := hf
      refine ax_getR fl_246 rfl dRo_init_74 e_r19 ?_
      refine ax_iload_n (i := 1) dRo_init_77 rfl rfl ?_
      refine ax_new (ci := 3) rfl rfl w_216 dRo_init_78 ?_
      refine ax_dup dRo_init_81 rfl ?_
      replace hf := bd1_s hf
      obtain ⟨h21, e_h21, hf⟩ := hf
      refine ax_callI (As := []) (rest := [va_rf (some (hM h)), .int z1, va_rf r19]) rfl (c_Go_init e_h21) ml_219 cm_Go_init (Nat.le_trans (Nat.le_of_ble_eq_true rfl) hR1) (Nat.le_trans (Nat.le_of_ble_eq_true rfl) hR2) rfl rfl (by simp only [List.map_cons, List.map_nil, List.sum_cons, List.sum_nil, cat_rf]; exact Nat.le_of_ble_eq_true rfl) dRo_init_82 ?_
      replace hf := bd1_s hf
      obtain ⟨a22, e_d, hf⟩ := hf
      subst e_d
      replace hf := bd1_s hf
      obtain ⟨h23, e_h23, hf⟩ := hf
      refine ax_aast (c := 3) (by decide) rfl rfl rfl dRo_init_85 e_h23 ?_
      refine ax_iinc (i := 1) (z1 + (1 : Int32)) [some (va_rf (some y0)), some (.int (z1 + (1 : Int32)))] dRo_init_86 rfl (iic k32_1) (Or.inr (c1r rfl)) rfl ?_
      refine ax_goto 64 dRo_init_89 (by decide) ?_
      exact ih (z1 + (1 : Int32)) h23 hf
    · refine ax_icmp_geT 92 dRo_init_70 (by decide) hc ?_
      cases hf
      exact Hr _ _ dRo_init_92
theorem v_Ro_init {l : Launch} {E : EN} {R : Room} {B : (Nat × Nat) × (Nat × Nat)} {Qf : QF} {h0 : AH} {o : Nat} {hF : AH} (hR1 : 2 ≤ R.frames) (hR2 : 128 ≤ R.locals) (Hr : ∀ (pc : Nat) (L : List (Option Value)), decode mi_Ro_init.2.1 pc = .ok (.return_, 1) → AW l E mi_Ro_init R B Qf pc L [] hF) (hf : f_Ro_init h0 o = some hF) : AW l E mi_Ro_init R B Qf 0 [some (va_rf (some o)), none] [] h0 := by
  unfold f_Ro_init at hf
  refine ax_aload_n (i := 0) (some o) dRo_init_0 rfl rfl ?_
  refine ax_objInit w_213 w_obi w_obc (Nat.le_trans (Nat.le_of_ble_eq_true rfl) hR1) (Nat.le_trans (Nat.le_of_ble_eq_true rfl) hR2) (Nat.le_of_ble_eq_true rfl) dRo_init_1 ?_
  refine ax_aload_n (i := 0) (some o) dRo_init_4 rfl rfl ?_
  refine ax_bipush (8 : Int32) dRo_init_5 k8_8 ?_
  replace hf := bd1_s hf
  obtain ⟨h1, e_h1, hf⟩ := hf
  refine ax_anew (c := 4) (by decide) rfl rfl (by decide) w_214 dRo_init_7 e_h1 ?_
  replace hf := bd1_s hf
  obtain ⟨h2, e_h2, hf⟩ := hf
  refine ax_putR (v := (some (hM h0))) fw_236 rfl rfl dRo_init_10 e_h2 ?_
  refine ax_aload_n (i := 0) (some o) dRo_init_13 rfl rfl ?_
  refine ax_bipush (12 : Int32) dRo_init_14 k8_12 ?_
  replace hf := bd1_s hf
  obtain ⟨h3, e_h3, hf⟩ := hf
  refine ax_newa (d := 1) (Or.inl rfl) rfl w_ac1 dRo_init_16 e_h3 ?_
  replace hf := bd1_s hf
  obtain ⟨h4, e_h4, hf⟩ := hf
  refine ax_putR (v := (some (hM h2))) fw_240 rfl rfl dRo_init_18 e_h4 ?_
  refine ax_aload_n (i := 0) (some o) dRo_init_21 rfl rfl ?_
  refine ax_iconst (5 : Int32) dRo_init_22 k32_5 ?_
  replace hf := bd1_s hf
  obtain ⟨h5, e_h5, hf⟩ := hf
  refine ax_newa (d := 1) (Or.inl rfl) rfl w_ac1 dRo_init_23 e_h5 ?_
  replace hf := bd1_s hf
  obtain ⟨h6, e_h6, hf⟩ := hf
  refine ax_putR (v := (some (hM h4))) fw_242 rfl rfl dRo_init_25 e_h6 ?_
  refine ax_aload_n (i := 0) (some o) dRo_init_28 rfl rfl ?_
  refine ax_bipush (6 : Int32) dRo_init_29 k8_6 ?_
  replace hf := bd1_s hf
  obtain ⟨h7, e_h7, hf⟩ := hf
  refine ax_anew (c := 3) (by decide) rfl rfl (by decide) w_216 dRo_init_31 e_h7 ?_
  replace hf := bd1_s hf
  obtain ⟨h8, e_h8, hf⟩ := hf
  refine ax_putR (v := (some (hM h6))) fw_246 rfl rfl dRo_init_34 e_h8 ?_
  refine ax_aload_n (i := 0) (some o) dRo_init_37 rfl rfl ?_
  refine ax_new (ci := 3) rfl rfl w_216 dRo_init_38 ?_
  refine ax_dup dRo_init_41 rfl ?_
  replace hf := bd1_s hf
  obtain ⟨h10, e_h10, hf⟩ := hf
  refine ax_callI (As := []) (rest := [va_rf (some (hM h8)), va_rf (some o)]) rfl (c_Go_init e_h10) ml_219 cm_Go_init (Nat.le_trans (Nat.le_of_ble_eq_true rfl) hR1) (Nat.le_trans (Nat.le_of_ble_eq_true rfl) hR2) rfl rfl (Nat.le_of_ble_eq_true rfl) dRo_init_42 ?_
  replace hf := bd1_s hf
  obtain ⟨h11, e_h11, hf⟩ := hf
  refine ax_putR (v := (some (hM h8))) fw_247 rfl rfl dRo_init_45 e_h11 ?_
  refine ax_aload_n (i := 0) (some o) dRo_init_48 rfl rfl ?_
  refine ax_iconst (5 : Int32) dRo_init_49 k32_5 ?_
  replace hf := bd1_s hf
  obtain ⟨h12, e_h12, hf⟩ := hf
  refine ax_newa (d := 1) (Or.inl rfl) rfl w_ac1 dRo_init_50 e_h12 ?_
  replace hf := bd1_s hf
  obtain ⟨h13, e_h13, hf⟩ := hf
  refine ax_putR (v := (some (hM h11))) fw_248 rfl rfl dRo_init_52 e_h13 ?_
  refine ax_aload_n (i := 0) (some o) dRo_init_55 rfl rfl ?_
  refine ax_iconst (5 : Int32) dRo_init_56 k32_5 ?_
  replace hf := bd1_s hf
  obtain ⟨h14, e_h14, hf⟩ := hf
  refine ax_newa (d := 1) (Or.inl rfl) rfl w_ac1 dRo_init_57 e_h14 ?_
  replace hf := bd1_s hf
  obtain ⟨h15, e_h15, hf⟩ := hf
  refine ax_putR (v := (some (hM h13))) fw_249 rfl rfl dRo_init_59 e_h15 ?_
  refine ax_iconst (0 : Int32) dRo_init_62 k32_0 ?_
  refine ax_istore_n (i := 1) [some (va_rf (some o)), some (.int (0 : Int32))] dRo_init_63 rfl (Nat.le_of_ble_eq_true rfl) (Or.inr (c1r rfl)) rfl ?_
  refine w_Ro_init_L64 hR1 hR2 Hr FU (0 : Int32) h15 hf
theorem c_Ro_init {l : Launch} {E : EN} {h0 : AH} {o : Nat} {hF : AH} (hf : f_Ro_init h0 o = some hF) : AM l E 2 mi_Ro_init [va_rf (some o)] h0 none hF :=
  am_of2 [(va_rf (some o), false)] 1 ⟨cat_rf _, trivial⟩ rfl rfl (v_Ro_init (Nat.le_refl _) (Nat.le_refl _) (fun pc L hd => ax_vret rfl hd rfl) hf)
theorem v_Wo_init {l : Launch} {E : EN} {R : Room} {B : (Nat × Nat) × (Nat × Nat)} {Qf : QF} {h0 : AH} {o : Nat} {hF : AH} (hR1 : 1 ≤ R.frames) (hR2 : 64 ≤ R.locals) (Hr : ∀ (pc : Nat) (L : List (Option Value)), decode mi_Wo_init.2.1 pc = .ok (.return_, 1) → AW l E mi_Wo_init R B Qf pc L [] hF) (hf : f_Wo_init h0 o = some hF) : AW l E mi_Wo_init R B Qf 0 [some (va_rf (some o))] [] h0 := by
  unfold f_Wo_init at hf
  refine ax_aload_n (i := 0) (some o) dWo_init_0 rfl rfl ?_
  refine ax_objInit w_293 w_obi w_obc (Nat.le_trans (Nat.le_of_ble_eq_true rfl) hR1) (Nat.le_trans (Nat.le_of_ble_eq_true rfl) hR2) (Nat.le_of_ble_eq_true rfl) dWo_init_1 ?_
  refine ax_aload_n (i := 0) (some o) dWo_init_4 rfl rfl ?_
  refine ax_bipush (64 : Int32) dWo_init_5 k8_64 ?_
  replace hf := bd1_s hf
  obtain ⟨h1, e_h1, hf⟩ := hf
  refine ax_newa (d := 4) (Or.inr (Or.inr (Or.inr rfl))) rfl w_ac4 dWo_init_7 e_h1 ?_
  replace hf := bd1_s hf
  obtain ⟨h2, e_h2, hf⟩ := hf
  refine ax_putR (v := (some (hM h0))) fw_294 rfl rfl dWo_init_9 e_h2 ?_
  cases hf
  exact Hr _ _ dWo_init_12
theorem c_Wo_init {l : Launch} {E : EN} {h0 : AH} {o : Nat} {hF : AH} (hf : f_Wo_init h0 o = some hF) : AM l E 1 mi_Wo_init [va_rf (some o)] h0 none hF :=
  am_of2 [(va_rf (some o), false)] 0 ⟨cat_rf _, trivial⟩ rfl rfl (v_Wo_init (Nat.le_refl _) (Nat.le_refl _) (fun pc L hd => ax_vret rfl hd rfl) hf)
theorem w_Lo_init_L26 {l : Launch} {E : EN} {R : Room} {B : (Nat × Nat) × (Nat × Nat)} {Qf : QF} {hF : AH} (hR1 : 2 ≤ R.frames) (hR2 : 128 ≤ R.locals) (Hr : ∀ (pc : Nat) (L : List (Option Value)), decode mi_Lo_init.2.1 pc = .ok (.return_, 1) → AW l E mi_Lo_init R B Qf pc L [] hF) {y0 : Nat} : ∀ (n : Nat) (z1 : Int32) (h : AH), f_Lo_init_L26 y0 n z1 h = some hF → AW l E mi_Lo_init R B Qf 26 [some (va_rf (some y0)), some (.int z1)] [] h := by
  intro n
  induction n with
  | zero => intro z1 h hf; cases hf
  | succ n ih =>
    intro z1 h hf
    rw [f_Lo_init_L26] at hf
    refine ax_iload_n (i := 1) dLo_init_26 rfl rfl ?_
    refine ax_aload_n (i := 0) (some y0) dLo_init_27 rfl rfl ?_
    replace hf := bd1_s hf
    obtain ⟨r6, e_r6, hf⟩ := hf
    refine ax_getR fl_298 rfl dLo_init_28 e_r6 ?_
    replace hf := bd1_s hf
    obtain ⟨a7, e_d, hf⟩ := hf
    subst e_d
    replace hf := bd1_s hf
    obtain ⟨x8, e_x8, hf⟩ := hf
    refine ax_alen (d := 21) (by decide) rfl dLo_init_31 e_x8 ?_
    replace hf := ite_c hf
    rcases hf with ⟨hc, hf⟩ | ⟨hc, hf⟩
    · refine ax_icmp_geF 54 dLo_init_32 (by decide) hc ?_
      refine ax_aload_n (i := 0) (some y0) dLo_init_35 rfl rfl ?_
      replace hf := bd1_s hf
      obtain ⟨r9, e_r9, hf⟩ := hf
      refine ax_getR fl_298 rfl dLo_init_36 e_r9 ?_
      refine ax_iload_n (i := 1) dLo_init_39 rfl rfl ?_
      refine ax_new (ci := 11) rfl rfl w_287 dLo_init_40 ?_
      refine ax_dup dLo_init_43 rfl ?_
      replace hf := bd1_s hf
      obtain ⟨h11, e_h11, hf⟩ := hf
      refine ax_callI (As := []) (rest := [va_rf (some (hM h)), .int z1, va_rf r9]) rfl (c_Wo_init e_h11) ml_290 cm_Wo_init (Nat.le_trans (Nat.le_of_ble_eq_true rfl) hR1) (Nat.le_trans (Nat.le_of_ble_eq_true rfl) hR2) rfl rfl (by simp only [List.map_cons, List.map_nil, List.sum_cons, List.sum_nil, cat_rf]; exact Nat.le_of_ble_eq_true rfl) dLo_init_44 ?_
      replace hf := bd1_s hf
      obtain ⟨a12, e_d, hf⟩ := hf
      subst e_d
      replace hf := bd1_s hf
      obtain ⟨h13, e_h13, hf⟩ := hf
      refine ax_aast (c := 11) (by decide) rfl rfl rfl dLo_init_47 e_h13 ?_
      refine ax_iinc (i := 1) (z1 + (1 : Int32)) [some (va_rf (some y0)), some (.int (z1 + (1 : Int32)))] dLo_init_48 rfl (iic k32_1) (Or.inr (c1r rfl)) rfl ?_
      refine ax_goto 26 dLo_init_51 (by decide) ?_
      exact ih (z1 + (1 : Int32)) h13 hf
    · refine ax_icmp_geT 54 dLo_init_32 (by decide) hc ?_
      cases hf
      exact Hr _ _ dLo_init_54
theorem v_Lo_init {l : Launch} {E : EN} {R : Room} {B : (Nat × Nat) × (Nat × Nat)} {Qf : QF} {h0 : AH} {o : Nat} {hF : AH} (hR1 : 2 ≤ R.frames) (hR2 : 128 ≤ R.locals) (Hr : ∀ (pc : Nat) (L : List (Option Value)), decode mi_Lo_init.2.1 pc = .ok (.return_, 1) → AW l E mi_Lo_init R B Qf pc L [] hF) (hf : f_Lo_init h0 o = some hF) : AW l E mi_Lo_init R B Qf 0 [some (va_rf (some o)), none] [] h0 := by
  unfold f_Lo_init at hf
  refine ax_aload_n (i := 0) (some o) dLo_init_0 rfl rfl ?_
  refine ax_objInit w_286 w_obi w_obc (Nat.le_trans (Nat.le_of_ble_eq_true rfl) hR1) (Nat.le_trans (Nat.le_of_ble_eq_true rfl) hR2) (Nat.le_of_ble_eq_true rfl) dLo_init_1 ?_
  refine ax_aload_n (i := 0) (some o) dLo_init_4 rfl rfl ?_
  refine ax_bipush (31 : Int32) dLo_init_5 k8_31 ?_
  replace hf := bd1_s hf
  obtain ⟨h1, e_h1, hf⟩ := hf
  refine ax_anew (c := 11) (by decide) rfl rfl (by decide) w_287 dLo_init_7 e_h1 ?_
  replace hf := bd1_s hf
  obtain ⟨h2, e_h2, hf⟩ := hf
  refine ax_putR (v := (some (hM h0))) fw_298 rfl rfl dLo_init_10 e_h2 ?_
  refine ax_aload_n (i := 0) (some o) dLo_init_13 rfl rfl ?_
  refine ax_new (ci := 11) rfl rfl w_287 dLo_init_14 ?_
  refine ax_dup dLo_init_17 rfl ?_
  replace hf := bd1_s hf
  obtain ⟨h4, e_h4, hf⟩ := hf
  refine ax_callI (As := []) (rest := [va_rf (some (hM h2)), va_rf (some o)]) rfl (c_Wo_init e_h4) ml_290 cm_Wo_init (Nat.le_trans (Nat.le_of_ble_eq_true rfl) hR1) (Nat.le_trans (Nat.le_of_ble_eq_true rfl) hR2) rfl rfl (Nat.le_of_ble_eq_true rfl) dLo_init_18 ?_
  replace hf := bd1_s hf
  obtain ⟨h5, e_h5, hf⟩ := hf
  refine ax_putR (v := (some (hM h2))) fw_302 rfl rfl dLo_init_21 e_h5 ?_
  refine ax_iconst (0 : Int32) dLo_init_24 k32_0 ?_
  refine ax_istore_n (i := 1) [some (va_rf (some o)), some (.int (0 : Int32))] dLo_init_25 rfl (Nat.le_of_ble_eq_true rfl) (Or.inr (c1r rfl)) rfl ?_
  refine w_Lo_init_L26 hR1 hR2 Hr FU (0 : Int32) h5 hf
theorem c_Lo_init {l : Launch} {E : EN} {h0 : AH} {o : Nat} {hF : AH} (hf : f_Lo_init h0 o = some hF) : AM l E 2 mi_Lo_init [va_rf (some o)] h0 none hF :=
  am_of2 [(va_rf (some o), false)] 1 ⟨cat_rf _, trivial⟩ rfl rfl (v_Lo_init (Nat.le_refl _) (Nat.le_refl _) (fun pc L hd => ax_vret rfl hd rfl) hf)
theorem w_jA_fill_J_L6 {l : Launch} {E : EN} {R : Room} {B : (Nat × Nat) × (Nat × Nat)} {Qf : QF} {hF : AH} (hR1 : 1 ≤ R.frames) (hR2 : 64 ≤ R.locals) (Hr : ∀ (pc : Nat) (L : List (Option Value)), decode mi_jA_fill_J.2.1 pc = .ok (.return_, 1) → AW l E mi_jA_fill_J R B Qf pc L [] hF) {y0 : Nat} {y1 : Int64} {y4 : Int32} : ∀ (n : Nat) (z3 : Int32) (h : AH), f_jA_fill_J_L6 y0 y1 y4 n z3 h = some hF → AW l E mi_jA_fill_J R B Qf 6 [some (va_rf (some y0)), some (.long y1), none, some (.int z3), some (.int y4)] [] h := by
  intro n
  induction n with
  | zero => intro z3 h hf; cases hf
  | succ n ih =>
    intro z3 h hf
    rw [f_jA_fill_J_L6] at hf
    refine ax_iload_n (i := 3) djA_fill_J_6 rfl rfl ?_
    refine ax_iload (i := 4) djA_fill_J_7 rfl ?_
    replace hf := ite_c hf
    rcases hf with ⟨hc, hf⟩ | ⟨hc, hf⟩
    · refine ax_icmp_geF 22 djA_fill_J_9 (by decide) hc ?_
      refine ax_aload_n (i := 0) (some y0) djA_fill_J_12 rfl rfl ?_
      refine ax_iload_n (i := 3) djA_fill_J_13 rfl rfl ?_
      refine ax_lload_n (i := 1) djA_fill_J_14 rfl rfl ?_
      replace hf := bd1_s hf
      obtain ⟨h3, e_h3, hf⟩ := hf
      refine ax_last djA_fill_J_15 e_h3 ?_
      refine ax_iinc (i := 3) (z3 + (1 : Int32)) [some (va_rf (some y0)), some (.long y1), none, some (.int (z3 + (1 : Int32))), some (.int y4)] djA_fill_J_16 rfl (iic k32_1) (Or.inr (c1n rfl)) rfl ?_
      refine ax_goto 6 djA_fill_J_19 (by decide) ?_
      exact ih (z3 + (1 : Int32)) h3 hf
    · refine ax_icmp_geT 22 djA_fill_J_9 (by decide) hc ?_
      cases hf
      exact Hr _ _ djA_fill_J_22
theorem v_jA_fill_J {l : Launch} {E : EN} {R : Room} {B : (Nat × Nat) × (Nat × Nat)} {Qf : QF} {h0 : AH} {p1 : Option Nat} {p2 : Int64} {hF : AH} (hR1 : 1 ≤ R.frames) (hR2 : 64 ≤ R.locals) (Hr : ∀ (pc : Nat) (L : List (Option Value)), decode mi_jA_fill_J.2.1 pc = .ok (.return_, 1) → AW l E mi_jA_fill_J R B Qf pc L [] hF) (hf : f_jA_fill_J h0 p1 p2 = some hF) : AW l E mi_jA_fill_J R B Qf 0 [some (va_rf p1), some (.long p2), none, none, none] [] h0 := by
  unfold f_jA_fill_J at hf
  refine ax_iconst (0 : Int32) djA_fill_J_0 k32_0 ?_
  refine ax_istore_n (i := 3) [some (va_rf p1), some (.long p2), none, some (.int (0 : Int32)), none] djA_fill_J_1 rfl (Nat.le_of_ble_eq_true rfl) (Or.inr (c1n rfl)) rfl ?_
  refine ax_aload_n (i := 0) p1 djA_fill_J_2 rfl rfl ?_
  replace hf := bd1_s hf
  obtain ⟨a1, e_d, hf⟩ := hf
  subst e_d
  replace hf := bd1_s hf
  obtain ⟨x2, e_x2, hf⟩ := hf
  refine ax_alen (d := 4) (by decide) rfl djA_fill_J_3 e_x2 ?_
  refine ax_istore (i := 4) [some (va_rf (some a1)), some (.long p2), none, some (.int (0 : Int32)), some (.int x2)] djA_fill_J_4 (Nat.le_of_ble_eq_true rfl) (Or.inr (c1i rfl)) rfl ?_
  refine w_jA_fill_J_L6 hR1 hR2 Hr FU (0 : Int32) h0 hf
theorem c_jA_fill_J {l : Launch} {E : EN} {h0 : AH} {p1 : Option Nat} {p2 : Int64} {hF : AH} (hf : f_jA_fill_J h0 p1 p2 = some hF) : AM l E 1 mi_jA_fill_J [va_rf p1, .long p2] h0 none hF :=
  am_of2 [(va_rf p1, false), (.long p2, true)] 2 ⟨cat_rf _, rfl, trivial⟩ rfl rfl (v_jA_fill_J (Nat.le_refl _) (Nat.le_refl _) (fun pc L hd => ax_vret rfl hd rfl) hf)
theorem v_Wo_becomeOnly {l : Launch} {E : EN} {R : Room} {B : (Nat × Nat) × (Nat × Nat)} {Qf : QF} {h0 : AH} {o : Nat} {p1 : Int32} {hF : AH} (hR1 : 2 ≤ R.frames) (hR2 : 128 ≤ R.locals) (Hr : ∀ (pc : Nat) (L : List (Option Value)), decode mi_Wo_becomeOnly.2.1 pc = .ok (.return_, 1) → AW l E mi_Wo_becomeOnly R B Qf pc L [] hF) (hf : f_Wo_becomeOnly h0 o p1 = some hF) : AW l E mi_Wo_becomeOnly R B Qf 0 [some (va_rf (some o)), some (.int p1)] [] h0 := by
  unfold f_Wo_becomeOnly at hf
  refine ax_aload_n (i := 0) (some o) dWo_becomeOnly_0 rfl rfl ?_
  replace hf := bd1_s hf
  obtain ⟨r1, e_r1, hf⟩ := hf
  refine ax_getR fl_294 rfl dWo_becomeOnly_1 e_r1 ?_
  refine ax_lconst (0 : Int64) dWo_becomeOnly_4 kl_0 ?_
  replace hf := bd1_s hf
  obtain ⟨h2, e_h2, hf⟩ := hf
  refine ax_callS (As := [va_rf r1, .long (0 : Int64)]) (rest := []) (c_jA_fill_J e_h2) ml_318 cm_jA_fill_J (Nat.le_trans (Nat.le_of_ble_eq_true rfl) hR1) (Nat.le_trans (Nat.le_of_ble_eq_true rfl) hR2) rfl rfl (Nat.le_of_ble_eq_true rfl) dWo_becomeOnly_5 ?_
  refine ax_aload_n (i := 0) (some o) dWo_becomeOnly_8 rfl rfl ?_
  replace hf := bd1_s hf
  obtain ⟨r3, e_r3, hf⟩ := hf
  refine ax_getR fl_294 rfl dWo_becomeOnly_9 e_r3 ?_
  refine ax_iload_n (i := 1) dWo_becomeOnly_12 rfl rfl ?_
  refine ax_bipush (6 : Int32) dWo_becomeOnly_13 k8_6 ?_
  refine ax_ishr dWo_becomeOnly_15 ?_
  refine ax_bipush (63 : Int32) dWo_becomeOnly_16 k8_63 ?_
  refine ax_iand dWo_becomeOnly_18 ?_
  refine ax_lconst (1 : Int64) dWo_becomeOnly_19 kl_1 ?_
  refine ax_iload_n (i := 1) dWo_becomeOnly_20 rfl rfl ?_
  refine ax_bipush (63 : Int32) dWo_becomeOnly_21 k8_63 ?_
  refine ax_iand dWo_becomeOnly_23 ?_
  refine ax_lshl dWo_becomeOnly_24 ?_
  replace hf := bd1_s hf
  obtain ⟨a4, e_d, hf⟩ := hf
  subst e_d
  replace hf := bd1_s hf
  obtain ⟨h5, e_h5, hf⟩ := hf
  refine ax_last dWo_becomeOnly_25 e_h5 ?_
  cases hf
  exact Hr _ _ dWo_becomeOnly_26
theorem c_Wo_becomeOnly {l : Launch} {E : EN} {h0 : AH} {o : Nat} {p1 : Int32} {hF : AH} (hf : f_Wo_becomeOnly h0 o p1 = some hF) : AM l E 2 mi_Wo_becomeOnly [va_rf (some o), .int p1] h0 none hF :=
  am_of2 [(va_rf (some o), false), (.int p1, false)] 0 ⟨cat_rf _, rfl, trivial⟩ rfl rfl (v_Wo_becomeOnly (Nat.le_refl _) (Nat.le_refl _) (fun pc L hd => ax_vret rfl hd rfl) hf)
theorem v_Lo_startWith {l : Launch} {E : EN} {R : Room} {B : (Nat × Nat) × (Nat × Nat)} {Qf : QF} {h0 : AH} {o : Nat} {p1 : Int32} {hF : AH} (hR1 : 3 ≤ R.frames) (hR2 : 192 ≤ R.locals) (Hr : ∀ (pc : Nat) (L : List (Option Value)), decode mi_Lo_startWith.2.1 pc = .ok (.return_, 1) → AW l E mi_Lo_startWith R B Qf pc L [] hF) (hf : f_Lo_startWith h0 o p1 = some hF) : AW l E mi_Lo_startWith R B Qf 0 [some (va_rf (some o)), some (.int p1)] [] h0 := by
  unfold f_Lo_startWith at hf
  refine ax_aload_n (i := 0) (some o) dLo_startWith_0 rfl rfl ?_
  refine ax_iconst (0 : Int32) dLo_startWith_1 k32_0 ?_
  replace hf := bd1_s hf
  obtain ⟨h1, e_h1, hf⟩ := hf
  refine ax_putI fw_300 rfl rfl dLo_startWith_2 e_h1 ?_
  refine ax_aload_n (i := 0) (some o) dLo_startWith_5 rfl rfl ?_
  replace hf := bd1_s hf
  obtain ⟨r2, e_r2, hf⟩ := hf
  refine ax_getR fl_298 rfl dLo_startWith_6 e_r2 ?_
  refine ax_iconst (0 : Int32) dLo_startWith_9 k32_0 ?_
  replace hf := bd1_s hf
  obtain ⟨a3, e_d, hf⟩ := hf
  subst e_d
  replace hf := bd1_s hf
  obtain ⟨r4, e_r4, hf⟩ := hf
  refine ax_aald (c := 11) (by decide) rfl rfl dLo_startWith_10 e_r4 ?_
  refine ax_iload_n (i := 1) dLo_startWith_11 rfl rfl ?_
  replace hf := bd1_s hf
  obtain ⟨a5, e_d, hf⟩ := hf
  subst e_d
  replace hf := bd1_s hf
  obtain ⟨h6, e_h6, hf⟩ := hf
  obtain ⟨k_e_h6, e_h6⟩ := cv_s e_h6
  refine ax_callV (As := [.int p1]) (rest := []) (c_Wo_becomeOnly e_h6) ml_314 cm_Wo_becomeOnly rfl k_e_h6 (Nat.le_trans (Nat.le_of_ble_eq_true rfl) hR1) (Nat.le_trans (Nat.le_of_ble_eq_true rfl) hR2) rfl rfl (Nat.le_of_ble_eq_true rfl) dLo_startWith_12 ?_
  cases hf
  exact Hr _ _ dLo_startWith_15
theorem c_Lo_startWith {l : Launch} {E : EN} {h0 : AH} {o : Nat} {p1 : Int32} {hF : AH} (hf : f_Lo_startWith h0 o p1 = some hF) : AM l E 3 mi_Lo_startWith [va_rf (some o), .int p1] h0 none hF :=
  am_of2 [(va_rf (some o), false), (.int p1, false)] 0 ⟨cat_rf _, rfl, trivial⟩ rfl rfl (v_Lo_startWith (Nat.le_refl _) (Nat.le_refl _) (fun pc L hd => ax_vret rfl hd rfl) hf)
theorem v_C_init {l : Launch} {E : EN} {R : Room} {B : (Nat × Nat) × (Nat × Nat)} {Qf : QF} {h0 : AH} {o : Nat} {hF : AH} (hR1 : 4 ≤ R.frames) (hR2 : 256 ≤ R.locals) (Hr : ∀ (pc : Nat) (L : List (Option Value)), decode mi_C_init.2.1 pc = .ok (.return_, 1) → AW l E mi_C_init R B Qf pc L [] hF) (hf : f_C_init h0 o = some hF) : AW l E mi_C_init R B Qf 0 [some (va_rf (some o))] [] h0 := by
  unfold f_C_init at hf
  refine ax_aload_n (i := 0) (some o) dC_init_0 rfl rfl ?_
  refine ax_objInit w_24 w_obi w_obc (Nat.le_trans (Nat.le_of_ble_eq_true rfl) hR1) (Nat.le_trans (Nat.le_of_ble_eq_true rfl) hR2) (Nat.le_of_ble_eq_true rfl) dC_init_1 ?_
  refine ax_aload_n (i := 0) (some o) dC_init_4 rfl rfl ?_
  refine ax_new (ci := 7) rfl rfl w_27 dC_init_5 ?_
  refine ax_dup dC_init_8 rfl ?_
  replace hf := bd1_s hf
  obtain ⟨h2, e_h2, hf⟩ := hf
  refine ax_callI (As := []) (rest := [va_rf (some (hM h0)), va_rf (some o)]) rfl (c_Pa_init e_h2) ml_29 cm_Pa_init (Nat.le_trans (Nat.le_of_ble_eq_true rfl) hR1) (Nat.le_trans (Nat.le_of_ble_eq_true rfl) hR2) rfl rfl (Nat.le_of_ble_eq_true rfl) dC_init_9 ?_
  replace hf := bd1_s hf
  obtain ⟨h3, e_h3, hf⟩ := hf
  refine ax_putR (v := (some (hM h0))) fw_321 rfl rfl dC_init_12 e_h3 ?_
  refine ax_aload_n (i := 0) (some o) dC_init_15 rfl rfl ?_
  refine ax_bipush (6 : Int32) dC_init_16 k8_6 ?_
  replace hf := bd1_s hf
  obtain ⟨h4, e_h4, hf⟩ := hf
  refine ax_anew (c := 9) (by decide) rfl rfl (by decide) w_108 dC_init_18 e_h4 ?_
  replace hf := bd1_s hf
  obtain ⟨h5, e_h5, hf⟩ := hf
  refine ax_putR (v := (some (hM h3))) fw_322 rfl rfl dC_init_21 e_h5 ?_
  refine ax_aload_n (i := 0) (some o) dC_init_24 rfl rfl ?_
  refine ax_new (ci := 10) rfl rfl w_110 dC_init_25 ?_
  refine ax_dup dC_init_28 rfl ?_
  replace hf := bd1_s hf
  obtain ⟨h7, e_h7, hf⟩ := hf
  refine ax_callI (As := []) (rest := [va_rf (some (hM h5)), va_rf (some o)]) rfl (c_Wa_init e_h7) ml_112 cm_Wa_init (Nat.le_trans (Nat.le_of_ble_eq_true rfl) hR1) (Nat.le_trans (Nat.le_of_ble_eq_true rfl) hR2) rfl rfl (Nat.le_of_ble_eq_true rfl) dC_init_29 ?_
  replace hf := bd1_s hf
  obtain ⟨h8, e_h8, hf⟩ := hf
  refine ax_putR (v := (some (hM h5))) fw_324 rfl rfl dC_init_32 e_h8 ?_
  refine ax_aload_n (i := 0) (some o) dC_init_35 rfl rfl ?_
  refine ax_new (ci := 2) rfl rfl w_151 dC_init_36 ?_
  refine ax_dup dC_init_39 rfl ?_
  replace hf := bd1_s hf
  obtain ⟨h10, e_h10, hf⟩ := hf
  refine ax_callI (As := []) (rest := [va_rf (some (hM h8)), va_rf (some o)]) rfl (c_Fi_init e_h10) ml_153 cm_Fi_init (Nat.le_trans (Nat.le_of_ble_eq_true rfl) hR1) (Nat.le_trans (Nat.le_of_ble_eq_true rfl) hR2) rfl rfl (Nat.le_of_ble_eq_true rfl) dC_init_40 ?_
  replace hf := bd1_s hf
  obtain ⟨h11, e_h11, hf⟩ := hf
  refine ax_putR (v := (some (hM h8))) fw_325 rfl rfl dC_init_43 e_h11 ?_
  refine ax_aload_n (i := 0) (some o) dC_init_46 rfl rfl ?_
  refine ax_new (ci := 1) rfl rfl w_167 dC_init_47 ?_
  refine ax_dup dC_init_50 rfl ?_
  replace hf := bd1_s hf
  obtain ⟨h13, e_h13, hf⟩ := hf
  refine ax_callI (As := []) (rest := [va_rf (some (hM h11)), va_rf (some o)]) rfl (c_Ad_init e_h13) ml_169 cm_Ad_init (Nat.le_trans (Nat.le_of_ble_eq_true rfl) hR1) (Nat.le_trans (Nat.le_of_ble_eq_true rfl) hR2) rfl rfl (Nat.le_of_ble_eq_true rfl) dC_init_51 ?_
  replace hf := bd1_s hf
  obtain ⟨h14, e_h14, hf⟩ := hf
  refine ax_putR (v := (some (hM h11))) fw_326 rfl rfl dC_init_54 e_h14 ?_
  refine ax_aload_n (i := 0) (some o) dC_init_57 rfl rfl ?_
  refine ax_new (ci := 8) rfl rfl w_208 dC_init_58 ?_
  refine ax_dup dC_init_61 rfl ?_
  replace hf := bd1_s hf
  obtain ⟨h16, e_h16, hf⟩ := hf
  refine ax_callI (As := []) (rest := [va_rf (some (hM h14)), va_rf (some o)]) rfl (c_Ro_init e_h16) ml_210 cm_Ro_init (Nat.le_trans (Nat.le_of_ble_eq_true rfl) hR1) (Nat.le_trans (Nat.le_of_ble_eq_true rfl) hR2) rfl rfl (Nat.le_of_ble_eq_true rfl) dC_init_62 ?_
  replace hf := bd1_s hf
  obtain ⟨h17, e_h17, hf⟩ := hf
  refine ax_putR (v := (some (hM h14))) fw_329 rfl rfl dC_init_65 e_h17 ?_
  refine ax_aload_n (i := 0) (some o) dC_init_68 rfl rfl ?_
  refine ax_new (ci := 6) rfl rfl w_281 dC_init_69 ?_
  refine ax_dup dC_init_72 rfl ?_
  replace hf := bd1_s hf
  obtain ⟨h19, e_h19, hf⟩ := hf
  refine ax_callI (As := []) (rest := [va_rf (some (hM h17)), va_rf (some o)]) rfl (c_Lo_init e_h19) ml_283 cm_Lo_init (Nat.le_trans (Nat.le_of_ble_eq_true rfl) hR1) (Nat.le_trans (Nat.le_of_ble_eq_true rfl) hR2) rfl rfl (Nat.le_of_ble_eq_true rfl) dC_init_73 ?_
  replace hf := bd1_s hf
  obtain ⟨h20, e_h20, hf⟩ := hf
  refine ax_putR (v := (some (hM h17))) fw_331 rfl rfl dC_init_76 e_h20 ?_
  refine ax_aload_n (i := 0) (some o) dC_init_79 rfl rfl ?_
  replace hf := bd1_s hf
  obtain ⟨r21, e_r21, hf⟩ := hf
  refine ax_getR fl_331 rfl dC_init_80 e_r21 ?_
  refine ax_iconst (0 : Int32) dC_init_83 k32_0 ?_
  replace hf := bd1_s hf
  obtain ⟨a22, e_d, hf⟩ := hf
  subst e_d
  replace hf := bd1_s hf
  obtain ⟨h23, e_h23, hf⟩ := hf
  obtain ⟨k_e_h23, e_h23⟩ := cv_s e_h23
  refine ax_callV (As := [.int (0 : Int32)]) (rest := []) (c_Lo_startWith e_h23) ml_310 cm_Lo_startWith rfl k_e_h23 (Nat.le_trans (Nat.le_of_ble_eq_true rfl) hR1) (Nat.le_trans (Nat.le_of_ble_eq_true rfl) hR2) rfl rfl (Nat.le_of_ble_eq_true rfl) dC_init_84 ?_
  cases hf
  exact Hr _ _ dC_init_87
theorem c_C_init {l : Launch} {E : EN} {h0 : AH} {o : Nat} {hF : AH} (hf : f_C_init h0 o = some hF) : AM l E 4 mi_C_init [va_rf (some o)] h0 none hF :=
  am_of2 [(va_rf (some o), false)] 0 ⟨cat_rf _, trivial⟩ rfl rfl (v_C_init (Nat.le_refl _) (Nat.le_refl _) (fun pc L hd => ax_vret rfl hd rfl) hf)
theorem w_Pa_lettersIn_L7 {l : Launch} {E : EN} {R : Room} {B : (Nat × Nat) × (Nat × Nat)} {Qf : QF} {h0 : AH} {r : Int32} (hR1 : 1 ≤ R.frames) (hR2 : 64 ≤ R.locals) (Hr : ∀ (pc : Nat) (L : List (Option Value)), decode mi_Pa_lettersIn.2.1 pc = .ok (.ireturn, 1) → AW l E mi_Pa_lettersIn R B Qf pc L [.int r] h0) {y0 : Int64} : ∀ (n : Nat) (z2 : Int32) (z3 : Int32) (z4 : Int32), f_Pa_lettersIn_L7 h0 y0 n z2 z3 z4 = some r → AW l E mi_Pa_lettersIn R B Qf 7 [some (.long y0), none, some (.int z2), some (.int z3), some (.int z4), none] [] h0 := by
  intro n
  induction n with
  | zero => intro z2 z3 z4 hf; cases hf
  | succ n ih =>
    intro z2 z3 z4 hf
    rw [f_Pa_lettersIn_L7] at hf
    refine ax_iload (i := 4) dPa_lettersIn_7 rfl ?_
    refine ax_bipush (8 : Int32) dPa_lettersIn_9 k8_8 ?_
    replace hf := ite_c hf
    rcases hf with ⟨hc, hf⟩ | ⟨hc, hf⟩
    · refine ax_icmp_geF 75 dPa_lettersIn_11 (by decide) hc ?_
      refine ax_lload_n (i := 0) dPa_lettersIn_14 rfl rfl ?_
      refine ax_bipush (8 : Int32) dPa_lettersIn_15 k8_8 ?_
      refine ax_iload (i := 4) dPa_lettersIn_17 rfl ?_
      refine ax_imul dPa_lettersIn_19 ?_
      refine ax_lushr dPa_lettersIn_20 ?_
      refine ax_l2i dPa_lettersIn_21 ?_
      refine ax_sipush (255 : Int32) dPa_lettersIn_22 k16_255 ?_
      refine ax_iand dPa_lettersIn_25 ?_
      replace hf := bd1_s hf
      obtain ⟨x1, e_x1, hf⟩ := hf
      refine ax_nmI (Option.some.inj e_x1) ?_
      refine ax_istore (i := 5) [some (.long y0), none, some (.int z2), some (.int z3), some (.int z4), some (.int x1)] dPa_lettersIn_26 (Nat.le_of_ble_eq_true rfl) (Or.inr (c1i rfl)) rfl ?_
      refine ax_iload (i := 5) dPa_lettersIn_28 rfl ?_
      refine ax_bipush (126 : Int32) dPa_lettersIn_30 k8_126 ?_
      replace hf := ite_c hf
      rcases hf with ⟨hc, hf⟩ | ⟨hc, hf⟩
      · refine ax_icmp_gtT 44 dPa_lettersIn_32 (by decide) hc ?_
        refine ax_iconst (-1 : Int32) dPa_lettersIn_44 k32_m1 ?_
        cases hf
        exact Hr _ _ dPa_lettersIn_45
      · refine ax_icmp_gtF 44 dPa_lettersIn_32 (by decide) hc ?_
        refine ax_iload_n (i := 3) dPa_lettersIn_35 rfl rfl ?_
        replace hf := ite_c hf
        rcases hf with ⟨hc, hf⟩ | ⟨hc, hf⟩
        · refine ax_if_eqT 46 dPa_lettersIn_36 (by decide) hc ?_
          refine ax_iload (i := 5) dPa_lettersIn_46 rfl ?_
          replace hf := bd1_s hf
          obtain ⟨x2, hT, hf⟩ := hf
          have K : AW l E mi_Pa_lettersIn R B Qf 56 [some (.long y0), none, some (.int z2), none, some (.int z4), none] [.int x2] h0 := by
            clear hT
            refine ax_istore_n (i := 3) [some (.long y0), none, some (.int z2), some (.int x2), some (.int z4), none] dPa_lettersIn_56 rfl (Nat.le_of_ble_eq_true rfl) (Or.inr (c1i rfl)) rfl ?_
            refine ax_iload_n (i := 2) dPa_lettersIn_57 rfl rfl ?_
            refine ax_iload_n (i := 3) dPa_lettersIn_58 rfl rfl ?_
            replace hf := bd1_s hf
            obtain ⟨x3, hT, hf⟩ := hf
            have K : AW l E mi_Pa_lettersIn R B Qf 67 [some (.long y0), none, none, some (.int x2), some (.int z4), none] [.int x3, .int z2] h0 := by
              clear hT
              refine ax_iadd dPa_lettersIn_67 ?_
              replace hf := bd1_s hf
              obtain ⟨x4, e_x4, hf⟩ := hf
              refine ax_nmI (Option.some.inj e_x4) ?_
              refine ax_istore_n (i := 2) [some (.long y0), none, some (.int x4), some (.int x2), some (.int z4), none] dPa_lettersIn_68 rfl (Nat.le_of_ble_eq_true rfl) (Or.inr (c1n rfl)) rfl ?_
              refine ax_iinc (i := 4) (z4 + (1 : Int32)) [some (.long y0), none, some (.int x4), some (.int x2), some (.int (z4 + (1 : Int32))), none] dPa_lettersIn_69 rfl (iic k32_1) (Or.inr (c1i rfl)) rfl ?_
              refine ax_goto 7 dPa_lettersIn_72 (by decide) ?_
              exact ih x4 x2 (z4 + (1 : Int32)) hf
            replace hf := hT
            clear hT
            replace hf := ite_c hf
            rcases hf with ⟨hc, hf⟩ | ⟨hc, hf⟩
            · refine ax_if_eqT 66 dPa_lettersIn_59 (by decide) hc ?_
              refine ax_iconst (1 : Int32) dPa_lettersIn_66 k32_1 ?_
              refine ax_mask [true, true, false, true, true, true] rfl [some (.long y0), none, none, some (.int x2), some (.int z4), none] rfl ?_
              cases hf
              exact K
            · refine ax_if_eqF 66 dPa_lettersIn_59 (by decide) hc ?_
              refine ax_iconst (0 : Int32) dPa_lettersIn_62 k32_0 ?_
              refine ax_goto 67 dPa_lettersIn_63 (by decide) ?_
              refine ax_mask [true, true, false, true, true, true] rfl [some (.long y0), none, none, some (.int x2), some (.int z4), none] rfl ?_
              cases hf
              exact K
          replace hf := hT
          clear hT
          replace hf := ite_c hf
          rcases hf with ⟨hc, hf⟩ | ⟨hc, hf⟩
          · refine ax_if_neF 55 dPa_lettersIn_48 (by decide) hc ?_
            refine ax_iconst (1 : Int32) dPa_lettersIn_51 k32_1 ?_
            refine ax_goto 56 dPa_lettersIn_52 (by decide) ?_
            refine ax_mask [true, true, true, false, true, false] rfl [some (.long y0), none, some (.int z2), none, some (.int z4), none] rfl ?_
            cases hf
            exact K
          · refine ax_if_neT 55 dPa_lettersIn_48 (by decide) hc ?_
            refine ax_iconst (0 : Int32) dPa_lettersIn_55 k32_0 ?_
            refine ax_mask [true, true, true, false, true, false] rfl [some (.long y0), none, some (.int z2), none, some (.int z4), none] rfl ?_
            cases hf
            exact K
        · refine ax_if_eqF 46 dPa_lettersIn_36 (by decide) hc ?_
          refine ax_iload (i := 5) dPa_lettersIn_39 rfl ?_
          replace hf := ite_c hf
          rcases hf with ⟨hc, hf⟩ | ⟨hc, hf⟩
          · refine ax_if_eqT 46 dPa_lettersIn_41 (by decide) hc ?_
            refine ax_iload (i := 5) dPa_lettersIn_46 rfl ?_
            replace hf := bd1_s hf
            obtain ⟨x5, hT, hf⟩ := hf
            have K : AW l E mi_Pa_lettersIn R B Qf 56 [some (.long y0), none, some (.int z2), none, some (.int z4), none] [.int x5] h0 := by
              clear hT
              refine ax_istore_n (i := 3) [some (.long y0), none, some (.int z2), some (.int x5), some (.int z4), none] dPa_lettersIn_56 rfl (Nat.le_of_ble_eq_true rfl) (Or.inr (c1i rfl)) rfl ?_
              refine ax_iload_n (i := 2) dPa_lettersIn_57 rfl rfl ?_
              refine ax_iload_n (i := 3) dPa_lettersIn_58 rfl rfl ?_
              replace hf := bd1_s hf
              obtain ⟨x6, hT, hf⟩ := hf
              have K : AW l E mi_Pa_lettersIn R B Qf 67 [some (.long y0), none, none, some (.int x5), some (.int z4), none] [.int x6, .int z2] h0 := by
                clear hT
                refine ax_iadd dPa_lettersIn_67 ?_
                replace hf := bd1_s hf
                obtain ⟨x7, e_x7, hf⟩ := hf
                refine ax_nmI (Option.some.inj e_x7) ?_
                refine ax_istore_n (i := 2) [some (.long y0), none, some (.int x7), some (.int x5), some (.int z4), none] dPa_lettersIn_68 rfl (Nat.le_of_ble_eq_true rfl) (Or.inr (c1n rfl)) rfl ?_
                refine ax_iinc (i := 4) (z4 + (1 : Int32)) [some (.long y0), none, some (.int x7), some (.int x5), some (.int (z4 + (1 : Int32))), none] dPa_lettersIn_69 rfl (iic k32_1) (Or.inr (c1i rfl)) rfl ?_
                refine ax_goto 7 dPa_lettersIn_72 (by decide) ?_
                exact ih x7 x5 (z4 + (1 : Int32)) hf
              replace hf := hT
              clear hT
              replace hf := ite_c hf
              rcases hf with ⟨hc, hf⟩ | ⟨hc, hf⟩
              · refine ax_if_eqT 66 dPa_lettersIn_59 (by decide) hc ?_
                refine ax_iconst (1 : Int32) dPa_lettersIn_66 k32_1 ?_
                refine ax_mask [true, true, false, true, true, true] rfl [some (.long y0), none, none, some (.int x5), some (.int z4), none] rfl ?_
                cases hf
                exact K
              · refine ax_if_eqF 66 dPa_lettersIn_59 (by decide) hc ?_
                refine ax_iconst (0 : Int32) dPa_lettersIn_62 k32_0 ?_
                refine ax_goto 67 dPa_lettersIn_63 (by decide) ?_
                refine ax_mask [true, true, false, true, true, true] rfl [some (.long y0), none, none, some (.int x5), some (.int z4), none] rfl ?_
                cases hf
                exact K
            replace hf := hT
            clear hT
            replace hf := ite_c hf
            rcases hf with ⟨hc, hf⟩ | ⟨hc, hf⟩
            · refine ax_if_neF 55 dPa_lettersIn_48 (by decide) hc ?_
              refine ax_iconst (1 : Int32) dPa_lettersIn_51 k32_1 ?_
              refine ax_goto 56 dPa_lettersIn_52 (by decide) ?_
              refine ax_mask [true, true, true, false, true, false] rfl [some (.long y0), none, some (.int z2), none, some (.int z4), none] rfl ?_
              cases hf
              exact K
            · refine ax_if_neT 55 dPa_lettersIn_48 (by decide) hc ?_
              refine ax_iconst (0 : Int32) dPa_lettersIn_55 k32_0 ?_
              refine ax_mask [true, true, true, false, true, false] rfl [some (.long y0), none, some (.int z2), none, some (.int z4), none] rfl ?_
              cases hf
              exact K
          · refine ax_if_eqF 46 dPa_lettersIn_41 (by decide) hc ?_
            refine ax_iconst (-1 : Int32) dPa_lettersIn_44 k32_m1 ?_
            cases hf
            exact Hr _ _ dPa_lettersIn_45
    · refine ax_icmp_geT 75 dPa_lettersIn_11 (by decide) hc ?_
      refine ax_iload_n (i := 2) dPa_lettersIn_75 rfl rfl ?_
      cases hf
      exact Hr _ _ dPa_lettersIn_76
theorem v_Pa_lettersIn {l : Launch} {E : EN} {R : Room} {B : (Nat × Nat) × (Nat × Nat)} {Qf : QF} {h0 : AH} {p1 : Int64} {r : Int32} (hR1 : 1 ≤ R.frames) (hR2 : 64 ≤ R.locals) (Hr : ∀ (pc : Nat) (L : List (Option Value)), decode mi_Pa_lettersIn.2.1 pc = .ok (.ireturn, 1) → AW l E mi_Pa_lettersIn R B Qf pc L [.int r] h0) (hf : f_Pa_lettersIn h0 p1 = some r) : AW l E mi_Pa_lettersIn R B Qf 0 [some (.long p1), none, none, none, none, none] [] h0 := by
  unfold f_Pa_lettersIn at hf
  refine ax_iconst (0 : Int32) dPa_lettersIn_0 k32_0 ?_
  refine ax_istore_n (i := 2) [some (.long p1), none, some (.int (0 : Int32)), none, none, none] dPa_lettersIn_1 rfl (Nat.le_of_ble_eq_true rfl) (Or.inr (c1n rfl)) rfl ?_
  refine ax_iconst (0 : Int32) dPa_lettersIn_2 k32_0 ?_
  refine ax_istore_n (i := 3) [some (.long p1), none, some (.int (0 : Int32)), some (.int (0 : Int32)), none, none] dPa_lettersIn_3 rfl (Nat.le_of_ble_eq_true rfl) (Or.inr (c1i rfl)) rfl ?_
  refine ax_iconst (0 : Int32) dPa_lettersIn_4 k32_0 ?_
  refine ax_istore (i := 4) [some (.long p1), none, some (.int (0 : Int32)), some (.int (0 : Int32)), some (.int (0 : Int32)), none] dPa_lettersIn_5 (Nat.le_of_ble_eq_true rfl) (Or.inr (c1i rfl)) rfl ?_
  refine w_Pa_lettersIn_L7 hR1 hR2 Hr FU (0 : Int32) (0 : Int32) (0 : Int32) hf
theorem c_Pa_lettersIn {l : Launch} {E : EN} {h0 : AH} {p1 : Int64} {r : Int32} (hf : f_Pa_lettersIn h0 p1 = some r) : AM l E 1 mi_Pa_lettersIn [.long p1] h0 (some (.int r)) h0 :=
  am_of2 [(.long p1, true)] 4 ⟨rfl, trivial⟩ rfl rfl (v_Pa_lettersIn (Nat.le_refl _) (Nat.le_refl _) (fun pc L hd => ax_iret rfl hd rfl) hf)
theorem w_Pa_write_L3 {l : Launch} {E : EN} {R : Room} {B : (Nat × Nat) × (Nat × Nat)} {Qf : QF} {hF : AH} (hR1 : 1 ≤ R.frames) (hR2 : 64 ≤ R.locals) (Hr : ∀ (pc : Nat) (L : List (Option Value)), decode mi_Pa_write.2.1 pc = .ok (.return_, 1) → AW l E mi_Pa_write R B Qf pc L [] hF) {y0 : Nat} {y1 : Int64} {y3 : Int32} : ∀ (n : Nat) (z4 : Int32) (h : AH), f_Pa_write_L3 y0 y1 y3 n z4 h = some hF → AW l E mi_Pa_write R B Qf 3 [some (va_rf (some y0)), some (.long y1), none, some (.int y3), some (.int z4)] [] h := by
  intro n
  induction n with
  | zero => intro z4 h hf; cases hf
  | succ n ih =>
    intro z4 h hf
    rw [f_Pa_write_L3] at hf
    refine ax_iload (i := 4) dPa_write_3 rfl ?_
    refine ax_iload_n (i := 3) dPa_write_5 rfl rfl ?_
    replace hf := ite_c hf
    rcases hf with ⟨hc, hf⟩ | ⟨hc, hf⟩
    · refine ax_icmp_geF 55 dPa_write_6 (by decide) hc ?_
      refine ax_aload_n (i := 0) (some y0) dPa_write_9 rfl rfl ?_
      replace hf := bd1_s hf
      obtain ⟨x1, e_x1, hf⟩ := hf
      refine ax_getI fl_81 rfl dPa_write_10 e_x1 ?_
      refine ax_bipush (80 : Int32) dPa_write_13 k8_80 ?_
      replace hf := ite_c hf
      rcases hf with ⟨hc, hf⟩ | ⟨hc, hf⟩
      · refine ax_icmp_geF 55 dPa_write_15 (by decide) hc ?_
        refine ax_aload_n (i := 0) (some y0) dPa_write_18 rfl rfl ?_
        replace hf := bd1_s hf
        obtain ⟨r2, e_r2, hf⟩ := hf
        refine ax_getR fl_78 rfl dPa_write_19 e_r2 ?_
        refine ax_aload_n (i := 0) (some y0) dPa_write_22 rfl rfl ?_
        replace hf := bd1_s hf
        obtain ⟨x3, e_x3, hf⟩ := hf
        refine ax_getI fl_81 rfl dPa_write_23 e_x3 ?_
        refine ax_lload_n (i := 1) dPa_write_26 rfl rfl ?_
        refine ax_bipush (8 : Int32) dPa_write_27 k8_8 ?_
        refine ax_iload (i := 4) dPa_write_29 rfl ?_
        refine ax_imul dPa_write_31 ?_
        refine ax_lushr dPa_write_32 ?_
        refine ax_l2i dPa_write_33 ?_
        refine ax_sipush (255 : Int32) dPa_write_34 k16_255 ?_
        refine ax_iand dPa_write_37 ?_
        replace hf := bd1_s hf
        obtain ⟨a4, e_d, hf⟩ := hf
        subst e_d
        replace hf := bd1_s hf
        obtain ⟨h5, e_h5, hf⟩ := hf
        refine ax_iast dPa_write_38 e_h5 ?_
        refine ax_aload_n (i := 0) (some y0) dPa_write_39 rfl rfl ?_
        refine ax_dup dPa_write_40 rfl ?_
        replace hf := bd1_s hf
        obtain ⟨x6, e_x6, hf⟩ := hf
        refine ax_getI fl_81 rfl dPa_write_41 e_x6 ?_
        refine ax_iconst (1 : Int32) dPa_write_44 k32_1 ?_
        refine ax_iadd dPa_write_45 ?_
        replace hf := bd1_s hf
        obtain ⟨h7, e_h7, hf⟩ := hf
        refine ax_putI fw_81 rfl rfl dPa_write_46 e_h7 ?_
        refine ax_iinc (i := 4) (z4 + (1 : Int32)) [some (va_rf (some y0)), some (.long y1), none, some (.int y3), some (.int (z4 + (1 : Int32)))] dPa_write_49 rfl (iic k32_1) (Or.inr (c1i rfl)) rfl ?_
        refine ax_goto 3 dPa_write_52 (by decide) ?_
        exact ih (z4 + (1 : Int32)) h7 hf
      · refine ax_icmp_geT 55 dPa_write_15 (by decide) hc ?_
        cases hf
        exact Hr _ _ dPa_write_55
    · refine ax_icmp_geT 55 dPa_write_6 (by decide) hc ?_
      cases hf
      exact Hr _ _ dPa_write_55
theorem v_Pa_write {l : Launch} {E : EN} {R : Room} {B : (Nat × Nat) × (Nat × Nat)} {Qf : QF} {h0 : AH} {o : Nat} {p1 : Int64} {p2 : Int32} {hF : AH} (hR1 : 1 ≤ R.frames) (hR2 : 64 ≤ R.locals) (Hr : ∀ (pc : Nat) (L : List (Option Value)), decode mi_Pa_write.2.1 pc = .ok (.return_, 1) → AW l E mi_Pa_write R B Qf pc L [] hF) (hf : f_Pa_write h0 o p1 p2 = some hF) : AW l E mi_Pa_write R B Qf 0 [some (va_rf (some o)), some (.long p1), none, some (.int p2), none] [] h0 := by
  unfold f_Pa_write at hf
  refine ax_iconst (0 : Int32) dPa_write_0 k32_0 ?_
  refine ax_istore (i := 4) [some (va_rf (some o)), some (.long p1), none, some (.int p2), some (.int (0 : Int32))] dPa_write_1 (Nat.le_of_ble_eq_true rfl) (Or.inr (c1i rfl)) rfl ?_
  refine w_Pa_write_L3 hR1 hR2 Hr FU (0 : Int32) h0 hf
theorem c_Pa_write {l : Launch} {E : EN} {h0 : AH} {o : Nat} {p1 : Int64} {p2 : Int32} {hF : AH} (hf : f_Pa_write h0 o p1 p2 = some hF) : AM l E 1 mi_Pa_write [va_rf (some o), .long p1, .int p2] h0 none hF :=
  am_of2 [(va_rf (some o), false), (.long p1, true), (.int p2, false)] 1 ⟨cat_rf _, rfl, rfl, trivial⟩ rfl rfl (v_Pa_write (Nat.le_refl _) (Nat.le_refl _) (fun pc L hd => ax_vret rfl hd rfl) hf)
theorem v_C_letters {l : Launch} {E : EN} {R : Room} {B : (Nat × Nat) × (Nat × Nat)} {Qf : QF} {h0 : AH} {o : Nat} {p1 : Int64} {r : Int32} {hF : AH} (hR1 : 2 ≤ R.frames) (hR2 : 128 ≤ R.locals) (Hr : ∀ (pc : Nat) (L : List (Option Value)), decode mi_C_letters.2.1 pc = .ok (.ireturn, 1) → AW l E mi_C_letters R B Qf pc L [.int r] hF) (hf : f_C_letters h0 o p1 = some (r, hF)) : AW l E mi_C_letters R B Qf 0 [some (va_rf (some o)), some (.long p1), none, none] [] h0 := by
  unfold f_C_letters at hf
  refine ax_lload_n (i := 1) dC_letters_0 rfl rfl ?_
  replace hf := bd1_s hf
  obtain ⟨x1, e_x1, hf⟩ := hf
  refine ax_callS (As := [.long p1]) (rest := []) (c_Pa_lettersIn e_x1) ml_359 cm_Pa_lettersIn (Nat.le_trans (Nat.le_of_ble_eq_true rfl) hR1) (Nat.le_trans (Nat.le_of_ble_eq_true rfl) hR2) rfl rfl (Nat.le_of_ble_eq_true rfl) dC_letters_1 ?_
  refine ax_istore_n (i := 3) [some (va_rf (some o)), some (.long p1), none, some (.int x1)] dC_letters_4 rfl (Nat.le_of_ble_eq_true rfl) (Or.inr (c1n rfl)) rfl ?_
  refine ax_iload_n (i := 3) dC_letters_5 rfl rfl ?_
  refine ax_iconst (-1 : Int32) dC_letters_6 k32_m1 ?_
  replace hf := ite_c hf
  rcases hf with ⟨hc, hf⟩ | ⟨hc, hf⟩
  · refine ax_icmp_neF 13 dC_letters_7 (by decide) hc ?_
    refine ax_bipush (-102 : Int32) dC_letters_10 k8_m102 ?_
    cases hf
    exact Hr _ _ dC_letters_12
  · refine ax_icmp_neT 13 dC_letters_7 (by decide) hc ?_
    refine ax_aload_n (i := 0) (some o) dC_letters_13 rfl rfl ?_
    replace hf := bd1_s hf
    obtain ⟨r2, e_r2, hf⟩ := hf
    refine ax_getR fl_321 rfl dC_letters_14 e_r2 ?_
    replace hf := bd1_s hf
    obtain ⟨a3, e_d, hf⟩ := hf
    subst e_d
    replace hf := bd1_s hf
    obtain ⟨x4, e_x4, hf⟩ := hf
    refine ax_getI fl_80 rfl dC_letters_17 e_x4 ?_
    refine ax_iload_n (i := 3) dC_letters_20 rfl rfl ?_
    refine ax_iadd dC_letters_21 ?_
    refine ax_bipush (80 : Int32) dC_letters_22 k8_80 ?_
    replace hf := ite_c hf
    rcases hf with ⟨hc, hf⟩ | ⟨hc, hf⟩
    · refine ax_icmp_leF 30 dC_letters_24 (by decide) hc ?_
      refine ax_bipush (-104 : Int32) dC_letters_27 k8_m104 ?_
      cases hf
      exact Hr _ _ dC_letters_29
    · refine ax_icmp_leT 30 dC_letters_24 (by decide) hc ?_
      refine ax_aload_n (i := 0) (some o) dC_letters_30 rfl rfl ?_
      replace hf := bd1_s hf
      obtain ⟨r5, e_r5, hf⟩ := hf
      refine ax_getR fl_321 rfl dC_letters_31 e_r5 ?_
      refine ax_lload_n (i := 1) dC_letters_34 rfl rfl ?_
      refine ax_iload_n (i := 3) dC_letters_35 rfl rfl ?_
      replace hf := bd1_s hf
      obtain ⟨a6, e_d, hf⟩ := hf
      subst e_d
      replace hf := bd1_s hf
      obtain ⟨h7, e_h7, hf⟩ := hf
      obtain ⟨k_e_h7, e_h7⟩ := cv_s e_h7
      refine ax_callV (As := [.long p1, .int x1]) (rest := []) (c_Pa_write e_h7) ml_362 cm_Pa_write rfl k_e_h7 (Nat.le_trans (Nat.le_of_ble_eq_true rfl) hR1) (Nat.le_trans (Nat.le_of_ble_eq_true rfl) hR2) rfl rfl (Nat.le_of_ble_eq_true rfl) dC_letters_36 ?_
      refine ax_aload_n (i := 0) (some o) dC_letters_39 rfl rfl ?_
      replace hf := bd1_s hf
      obtain ⟨r8, e_r8, hf⟩ := hf
      refine ax_getR fl_321 rfl dC_letters_40 e_r8 ?_
      replace hf := bd1_s hf
      obtain ⟨a9, e_d, hf⟩ := hf
      subst e_d
      replace hf := bd1_s hf
      obtain ⟨x10, e_x10, hf⟩ := hf
      refine ax_getI fl_80 rfl dC_letters_43 e_x10 ?_
      cases hf
      exact Hr _ _ dC_letters_46
theorem c_C_letters {l : Launch} {E : EN} {h0 : AH} {o : Nat} {p1 : Int64} {r : Int32} {hF : AH} (hf : f_C_letters h0 o p1 = some (r, hF)) : AM l E 2 mi_C_letters [va_rf (some o), .long p1] h0 (some (.int r)) hF :=
  am_of2 [(va_rf (some o), false), (.long p1, true)] 1 ⟨cat_rf _, rfl, trivial⟩ rfl rfl (v_C_letters (Nat.le_refl _) (Nat.le_refl _) (fun pc L hd => ax_iret rfl hd rfl) hf)
theorem v_C_blank {l : Launch} {E : EN} {R : Room} {B : (Nat × Nat) × (Nat × Nat)} {Qf : QF} {h0 : AH} {o : Nat} {r : Int32} {hF : AH} (hR1 : 1 ≤ R.frames) (hR2 : 64 ≤ R.locals) (Hr : ∀ (pc : Nat) (L : List (Option Value)), decode mi_C_blank.2.1 pc = .ok (.ireturn, 1) → AW l E mi_C_blank R B Qf pc L [.int r] hF) (hf : f_C_blank h0 o = some (r, hF)) : AW l E mi_C_blank R B Qf 0 [some (va_rf (some o)), none] [] h0 := by
  unfold f_C_blank at hf
  refine ax_aload_n (i := 0) (some o) dC_blank_0 rfl rfl ?_
  replace hf := bd1_s hf
  obtain ⟨r1, e_r1, hf⟩ := hf
  refine ax_getR fl_321 rfl dC_blank_1 e_r1 ?_
  replace hf := bd1_s hf
  obtain ⟨a2, e_d, hf⟩ := hf
  subst e_d
  replace hf := bd1_s hf
  obtain ⟨x3, e_x3, hf⟩ := hf
  refine ax_getI fl_80 rfl dC_blank_4 e_x3 ?_
  refine ax_istore_n (i := 1) [some (va_rf (some o)), some (.int x3)] dC_blank_7 rfl (Nat.le_of_ble_eq_true rfl) (Or.inr (c1r rfl)) rfl ?_
  refine ax_aload_n (i := 0) (some o) dC_blank_8 rfl rfl ?_
  replace hf := bd1_s hf
  obtain ⟨r4, e_r4, hf⟩ := hf
  refine ax_getR fl_321 rfl dC_blank_9 e_r4 ?_
  refine ax_iconst (0 : Int32) dC_blank_12 k32_0 ?_
  replace hf := bd1_s hf
  obtain ⟨a5, e_d, hf⟩ := hf
  subst e_d
  replace hf := bd1_s hf
  obtain ⟨h6, e_h6, hf⟩ := hf
  refine ax_putI fw_80 rfl rfl dC_blank_13 e_h6 ?_
  refine ax_iload_n (i := 1) dC_blank_16 rfl rfl ?_
  cases hf
  exact Hr _ _ dC_blank_17
theorem c_C_blank {l : Launch} {E : EN} {h0 : AH} {o : Nat} {r : Int32} {hF : AH} (hf : f_C_blank h0 o = some (r, hF)) : AM l E 1 mi_C_blank [va_rf (some o)] h0 (some (.int r)) hF :=
  am_of2 [(va_rf (some o), false)] 1 ⟨cat_rf _, trivial⟩ rfl rfl (v_C_blank (Nat.le_refl _) (Nat.le_refl _) (fun pc L hd => ax_iret rfl hd rfl) hf)
theorem v_Le_startTalk {l : Launch} {E : EN} {R : Room} {B : (Nat × Nat) × (Nat × Nat)} {Qf : QF} {h0 : AH} {o : Nat} {hF : AH} (hR1 : 1 ≤ R.frames) (hR2 : 64 ≤ R.locals) (Hr : ∀ (pc : Nat) (L : List (Option Value)), decode mi_Le_startTalk.2.1 pc = .ok (.return_, 1) → AW l E mi_Le_startTalk R B Qf pc L [] hF) (hf : f_Le_startTalk h0 o = some hF) : AW l E mi_Le_startTalk R B Qf 0 [some (va_rf (some o))] [] h0 := by
  unfold f_Le_startTalk at hf
  refine ax_aload_n (i := 0) (some o) dLe_startTalk_0 rfl rfl ?_
  refine ax_iconst (0 : Int32) dLe_startTalk_1 k32_0 ?_
  replace hf := bd1_s hf
  obtain ⟨h1, e_h1, hf⟩ := hf
  refine ax_putZ fw_43 rfl rfl dLe_startTalk_2 e_h1 ?_
  refine ax_aload_n (i := 0) (some o) dLe_startTalk_5 rfl rfl ?_
  refine ax_lconst (0 : Int64) dLe_startTalk_6 kl_0 ?_
  replace hf := bd1_s hf
  obtain ⟨h2, e_h2, hf⟩ := hf
  refine ax_putJ fw_45 rfl rfl dLe_startTalk_7 e_h2 ?_
  refine ax_aload_n (i := 0) (some o) dLe_startTalk_10 rfl rfl ?_
  refine ax_lconst (0 : Int64) dLe_startTalk_11 kl_0 ?_
  replace hf := bd1_s hf
  obtain ⟨h3, e_h3, hf⟩ := hf
  refine ax_putJ fw_47 rfl rfl dLe_startTalk_12 e_h3 ?_
  refine ax_aload_n (i := 0) (some o) dLe_startTalk_15 rfl rfl ?_
  refine ax_iconst (1 : Int32) dLe_startTalk_16 k32_1 ?_
  replace hf := bd1_s hf
  obtain ⟨h4, e_h4, hf⟩ := hf
  refine ax_putZ fw_49 rfl rfl dLe_startTalk_17 e_h4 ?_
  cases hf
  exact Hr _ _ dLe_startTalk_20
theorem c_Le_startTalk {l : Launch} {E : EN} {h0 : AH} {o : Nat} {hF : AH} (hf : f_Le_startTalk h0 o = some hF) : AM l E 1 mi_Le_startTalk [va_rf (some o)] h0 none hF :=
  am_of2 [(va_rf (some o), false)] 0 ⟨cat_rf _, trivial⟩ rfl rfl (v_Le_startTalk (Nat.le_refl _) (Nat.le_refl _) (fun pc L hd => ax_vret rfl hd rfl) hf)
theorem v_Le_open {l : Launch} {E : EN} {R : Room} {B : (Nat × Nat) × (Nat × Nat)} {Qf : QF} {h0 : AH} {o : Nat} {p1 : Int32} {hF : AH} (hR1 : 2 ≤ R.frames) (hR2 : 128 ≤ R.locals) (Hr : ∀ (pc : Nat) (L : List (Option Value)), decode mi_Le_open.2.1 pc = .ok (.return_, 1) → AW l E mi_Le_open R B Qf pc L [] hF) (hf : f_Le_open h0 o p1 = some hF) : AW l E mi_Le_open R B Qf 0 [some (va_rf (some o)), some (.int p1)] [] h0 := by
  unfold f_Le_open at hf
  refine ax_aload_n (i := 0) (some o) dLe_open_0 rfl rfl ?_
  refine ax_iload_n (i := 1) dLe_open_1 rfl rfl ?_
  replace hf := bd1_s hf
  obtain ⟨h1, e_h1, hf⟩ := hf
  refine ax_putI fw_40 rfl rfl dLe_open_2 e_h1 ?_
  refine ax_aload_n (i := 0) (some o) dLe_open_5 rfl rfl ?_
  refine ax_iconst (0 : Int32) dLe_open_6 k32_0 ?_
  replace hf := bd1_s hf
  obtain ⟨h2, e_h2, hf⟩ := hf
  refine ax_putZ fw_41 rfl rfl dLe_open_7 e_h2 ?_
  refine ax_aload_n (i := 0) (some o) dLe_open_10 rfl rfl ?_
  refine ax_lconst (0 : Int64) dLe_open_11 kl_0 ?_
  replace hf := bd1_s hf
  obtain ⟨h3, e_h3, hf⟩ := hf
  refine ax_putJ fw_51 rfl rfl dLe_open_12 e_h3 ?_
  refine ax_aload_n (i := 0) (some o) dLe_open_15 rfl rfl ?_
  refine ax_lconst (0 : Int64) dLe_open_16 kl_0 ?_
  replace hf := bd1_s hf
  obtain ⟨h4, e_h4, hf⟩ := hf
  refine ax_putJ fw_53 rfl rfl dLe_open_17 e_h4 ?_
  refine ax_aload_n (i := 0) (some o) dLe_open_20 rfl rfl ?_
  refine ax_iconst (0 : Int32) dLe_open_21 k32_0 ?_
  replace hf := bd1_s hf
  obtain ⟨h5, e_h5, hf⟩ := hf
  refine ax_putZ fw_55 rfl rfl dLe_open_22 e_h5 ?_
  refine ax_aload_n (i := 0) (some o) dLe_open_25 rfl rfl ?_
  replace hf := bd1_s hf
  obtain ⟨h6, e_h6, hf⟩ := hf
  obtain ⟨k_e_h6, e_h6⟩ := cv_s e_h6
  refine ax_callV (As := []) (rest := []) (c_Le_startTalk e_h6) ml_382 cm_Le_startTalk rfl k_e_h6 (Nat.le_trans (Nat.le_of_ble_eq_true rfl) hR1) (Nat.le_trans (Nat.le_of_ble_eq_true rfl) hR2) rfl rfl (Nat.le_of_ble_eq_true rfl) dLe_open_26 ?_
  cases hf
  exact Hr _ _ dLe_open_29
theorem c_Le_open {l : Launch} {E : EN} {h0 : AH} {o : Nat} {p1 : Int32} {hF : AH} (hf : f_Le_open h0 o p1 = some hF) : AM l E 2 mi_Le_open [va_rf (some o), .int p1] h0 none hF :=
  am_of2 [(va_rf (some o), false), (.int p1, false)] 0 ⟨cat_rf _, rfl, trivial⟩ rfl rfl (v_Le_open (Nat.le_refl _) (Nat.le_refl _) (fun pc L hd => ax_vret rfl hd rfl) hf)
theorem v_C_isMessage {l : Launch} {E : EN} {R : Room} {B : (Nat × Nat) × (Nat × Nat)} {Qf : QF} {h0 : AH} {p1 : Int32} {r : Int32} (hR1 : 1 ≤ R.frames) (hR2 : 64 ≤ R.locals) (Hr : (r = 0 ∨ r = 1) → ∀ (pc : Nat) (L : List (Option Value)), decode mi_C_isMessage.2.1 pc = .ok (.ireturn, 1) → AW l E mi_C_isMessage R B Qf pc L [.int r] h0) (hf : f_C_isMessage h0 p1 = some r) : AW l E mi_C_isMessage R B Qf 0 [some (.int p1)] [] h0 := by
  unfold f_C_isMessage at hf
  refine ax_iload_n (i := 0) dC_isMessage_0 rfl rfl ?_
  replace hf := ite_c hf
  rcases hf with ⟨hc, hf⟩ | ⟨hc, hf⟩
  · refine ax_if_ltT 14 dC_isMessage_1 (by decide) hc ?_
    refine ax_iconst (0 : Int32) dC_isMessage_14 k32_0 ?_
    cases hf
    exact Hr (Or.inl rfl) _ _ dC_isMessage_15
  · refine ax_if_ltF 14 dC_isMessage_1 (by decide) hc ?_
    refine ax_iload_n (i := 0) dC_isMessage_4 rfl rfl ?_
    refine ax_bipush (8 : Int32) dC_isMessage_5 k8_8 ?_
    replace hf := ite_c hf
    rcases hf with ⟨hc, hf⟩ | ⟨hc, hf⟩
    · refine ax_icmp_geF 14 dC_isMessage_7 (by decide) hc ?_
      refine ax_iconst (1 : Int32) dC_isMessage_10 k32_1 ?_
      refine ax_goto 15 dC_isMessage_11 (by decide) ?_
      cases hf
      exact Hr (Or.inr rfl) _ _ dC_isMessage_15
    · refine ax_icmp_geT 14 dC_isMessage_7 (by decide) hc ?_
      refine ax_iconst (0 : Int32) dC_isMessage_14 k32_0 ?_
      cases hf
      exact Hr (Or.inl rfl) _ _ dC_isMessage_15
theorem c_C_isMessage {l : Launch} {E : EN} {h0 : AH} {p1 : Int32} {r : Int32} (hf : f_C_isMessage h0 p1 = some r) : AM l E 1 mi_C_isMessage [.int p1] h0 (some (.int r)) h0 :=
  am_of2 [(.int p1, false)] 0 ⟨rfl, trivial⟩ rfl rfl (v_C_isMessage (Nat.le_refl _) (Nat.le_refl _) (fun hz pc L hd => ax_zret rfl hz hd rfl) hf)
theorem w_Pa_link_L3 {l : Launch} {E : EN} {R : Room} {B : (Nat × Nat) × (Nat × Nat)} {Qf : QF} {hF : AH} (hR1 : 1 ≤ R.frames) (hR2 : 64 ≤ R.locals) (Hr : ∀ (pc : Nat) (L : List (Option Value)), decode mi_Pa_link.2.1 pc = .ok (.return_, 1) → AW l E mi_Pa_link R B Qf pc L [] hF) {y0 : Nat} {y1 : Int64} {y3 : Int64} : ∀ (n : Nat) (z5 : Int32) (h : AH), f_Pa_link_L3 y0 y1 y3 n z5 h = some hF → AW l E mi_Pa_link R B Qf 3 [some (va_rf (some y0)), some (.long y1), none, some (.long y3), none, some (.int z5)] [] h := by
  intro n
  induction n with
  | zero => intro z5 h hf; cases hf
  | succ n ih =>
    intro z5 h hf
    rw [f_Pa_link_L3] at hf
    refine ax_iload (i := 5) dPa_link_3 rfl ?_
    refine ax_aload_n (i := 0) (some y0) dPa_link_5 rfl rfl ?_
    replace hf := bd1_s hf
    obtain ⟨x1, e_x1, hf⟩ := hf
    refine ax_getI fl_85 rfl dPa_link_6 e_x1 ?_
    replace hf := ite_c hf
    rcases hf with ⟨hc, hf⟩ | ⟨hc, hf⟩
    · refine ax_icmp_gtT 40 dPa_link_9 (by decide) hc ?_
      cases hf
      exact Hr _ _ dPa_link_40
    · refine ax_icmp_gtF 40 dPa_link_9 (by decide) hc ?_
      refine ax_lload_n (i := 1) dPa_link_12 rfl rfl ?_
      refine ax_iload (i := 5) dPa_link_13 rfl ?_
      refine ax_lshr dPa_link_15 ?_
      refine ax_lconst (1 : Int64) dPa_link_16 kl_1 ?_
      refine ax_land dPa_link_17 ?_
      refine ax_lconst (0 : Int64) dPa_link_18 kl_0 ?_
      refine ax_lcmp dPa_link_19 ?_
      replace hf := ite_c hf
      rcases hf with ⟨hc, hf⟩ | ⟨hc, hf⟩
      · refine ax_if_eqT 34 dPa_link_20 (by decide) hc ?_
        refine ax_iinc (i := 5) (z5 + (1 : Int32)) [some (va_rf (some y0)), some (.long y1), none, some (.long y3), none, some (.int (z5 + (1 : Int32)))] dPa_link_34 rfl (iic k32_1) (Or.inr (c1n rfl)) rfl ?_
        refine ax_goto 3 dPa_link_37 (by decide) ?_
        exact ih (z5 + (1 : Int32)) h hf
      · refine ax_if_eqF 34 dPa_link_20 (by decide) hc ?_
        refine ax_aload_n (i := 0) (some y0) dPa_link_23 rfl rfl ?_
        replace hf := bd1_s hf
        obtain ⟨r2, e_r2, hf⟩ := hf
        refine ax_getR fl_89 rfl dPa_link_24 e_r2 ?_
        refine ax_iload (i := 5) dPa_link_27 rfl ?_
        refine ax_dup2 dPa_link_29 rfl (cat_rf _) ?_
        replace hf := bd1_s hf
        obtain ⟨a3, e_d, hf⟩ := hf
        subst e_d
        replace hf := bd1_s hf
        obtain ⟨x4, e_x4, hf⟩ := hf
        refine ax_lald dPa_link_30 e_x4 ?_
        refine ax_lload_n (i := 3) dPa_link_31 rfl rfl ?_
        refine ax_lor dPa_link_32 ?_
        replace hf := bd1_s hf
        obtain ⟨h5, e_h5, hf⟩ := hf
        refine ax_last dPa_link_33 e_h5 ?_
        refine ax_iinc (i := 5) (z5 + (1 : Int32)) [some (va_rf (some y0)), some (.long y1), none, some (.long y3), none, some (.int (z5 + (1 : Int32)))] dPa_link_34 rfl (iic k32_1) (Or.inr (c1n rfl)) rfl ?_
        refine ax_goto 3 dPa_link_37 (by decide) ?_
        exact ih (z5 + (1 : Int32)) h5 hf
theorem v_Pa_link {l : Launch} {E : EN} {R : Room} {B : (Nat × Nat) × (Nat × Nat)} {Qf : QF} {h0 : AH} {o : Nat} {p1 : Int64} {p2 : Int64} {hF : AH} (hR1 : 1 ≤ R.frames) (hR2 : 64 ≤ R.locals) (Hr : ∀ (pc : Nat) (L : List (Option Value)), decode mi_Pa_link.2.1 pc = .ok (.return_, 1) → AW l E mi_Pa_link R B Qf pc L [] hF) (hf : f_Pa_link h0 o p1 p2 = some hF) : AW l E mi_Pa_link R B Qf 0 [some (va_rf (some o)), some (.long p1), none, some (.long p2), none, none] [] h0 := by
  unfold f_Pa_link at hf
  refine ax_iconst (1 : Int32) dPa_link_0 k32_1 ?_
  refine ax_istore (i := 5) [some (va_rf (some o)), some (.long p1), none, some (.long p2), none, some (.int (1 : Int32))] dPa_link_1 (Nat.le_of_ble_eq_true rfl) (Or.inr (c1n rfl)) rfl ?_
  refine w_Pa_link_L3 hR1 hR2 Hr FU (1 : Int32) h0 hf
theorem c_Pa_link {l : Launch} {E : EN} {h0 : AH} {o : Nat} {p1 : Int64} {p2 : Int64} {hF : AH} (hf : f_Pa_link h0 o p1 p2 = some hF) : AM l E 1 mi_Pa_link [va_rf (some o), .long p1, .long p2] h0 none hF :=
  am_of2 [(va_rf (some o), false), (.long p1, true), (.long p2, true)] 1 ⟨cat_rf _, rfl, rfl, trivial⟩ rfl rfl (v_Pa_link (Nat.le_refl _) (Nat.le_refl _) (fun pc L hd => ax_vret rfl hd rfl) hf)
theorem v_Pa_append {l : Launch} {E : EN} {R : Room} {B : (Nat × Nat) × (Nat × Nat)} {Qf : QF} {h0 : AH} {o : Nat} {p1 : Int64} {p2 : Int64} {p3 : Int32} {hF : AH} (hR1 : 2 ≤ R.frames) (hR2 : 128 ≤ R.locals) (Hr : ∀ (pc : Nat) (L : List (Option Value)), decode mi_Pa_append.2.1 pc = .ok (.return_, 1) → AW l E mi_Pa_append R B Qf pc L [] hF) (hf : f_Pa_append h0 o p1 p2 p3 = some hF) : AW l E mi_Pa_append R B Qf 0 [some (va_rf (some o)), some (.long p1), none, some (.long p2), none, some (.int p3), none] [] h0 := by
  unfold f_Pa_append at hf
  refine ax_aload_n (i := 0) (some o) dPa_append_0 rfl rfl ?_
  replace hf := bd1_s hf
  obtain ⟨r1, e_r1, hf⟩ := hf
  refine ax_getR fl_82 rfl dPa_append_1 e_r1 ?_
  refine ax_aload_n (i := 0) (some o) dPa_append_4 rfl rfl ?_
  replace hf := bd1_s hf
  obtain ⟨x2, e_x2, hf⟩ := hf
  refine ax_getI fl_83 rfl dPa_append_5 e_x2 ?_
  replace hf := bd1_s hf
  obtain ⟨a3, e_d, hf⟩ := hf
  subst e_d
  replace hf := bd1_s hf
  obtain ⟨r4, e_r4, hf⟩ := hf
  refine ax_aald (c := 5) (by decide) rfl rfl dPa_append_8 e_r4 ?_
  refine ax_astore (i := 6) (r := r4) [some (va_rf (some o)), some (.long p1), none, some (.long p2), none, some (.int p3), some (va_rf r4)] dPa_append_9 (Nat.le_of_ble_eq_true rfl) (Or.inr (c1i rfl)) rfl ?_
  refine ax_aload_n (i := 0) (some o) dPa_append_11 rfl rfl ?_
  refine ax_aload (i := 6) r4 dPa_append_12 rfl ?_
  replace hf := bd1_s hf
  obtain ⟨a5, e_d, hf⟩ := hf
  subst e_d
  replace hf := bd1_s hf
  obtain ⟨x6, e_x6, hf⟩ := hf
  refine ax_getJ fl_48 rfl dPa_append_14 e_x6 ?_
  refine ax_lload_n (i := 1) dPa_append_17 rfl rfl ?_
  replace hf := bd1_s hf
  obtain ⟨h7, e_h7, hf⟩ := hf
  obtain ⟨k_e_h7, e_h7⟩ := cv_s e_h7
  refine ax_callV (As := [.long x6, .long p1]) (rest := []) (c_Pa_link e_h7) ml_401 cm_Pa_link rfl k_e_h7 (Nat.le_trans (Nat.le_of_ble_eq_true rfl) hR1) (Nat.le_trans (Nat.le_of_ble_eq_true rfl) hR2) rfl rfl (Nat.le_of_ble_eq_true rfl) dPa_append_18 ?_
  refine ax_aload (i := 6) (some a5) dPa_append_21 rfl ?_
  replace hf := bd1_s hf
  obtain ⟨x8, e_x8, hf⟩ := hf
  refine ax_getI fl_50 rfl dPa_append_23 e_x8 ?_
  replace hf := bd1_s hf
  obtain ⟨h11, hT, hf⟩ := hf
  have K : AW l E mi_Pa_append R B Qf 40 [none, none, none, some (.long p2), none, some (.int p3), some (va_rf (some a5))] [] h11 := by
    clear hT
    refine ax_aload (i := 6) (some a5) dPa_append_40 rfl ?_
    refine ax_iload (i := 5) dPa_append_42 rfl ?_
    replace hf := bd1_s hf
    obtain ⟨x13, hT, hf⟩ := hf
    have K : AW l E mi_Pa_append R B Qf 58 [none, none, none, none, none, some (.int p3), some (va_rf (some a5))] [.long x13, va_rf (some a5)] h11 := by
      clear hT
      replace hf := bd1_s hf
      obtain ⟨h14, e_h14, hf⟩ := hf
      refine ax_putJ fw_48 rfl rfl dPa_append_58 e_h14 ?_
      refine ax_aload (i := 6) (some a5) dPa_append_61 rfl ?_
      refine ax_dup dPa_append_63 rfl ?_
      replace hf := bd1_s hf
      obtain ⟨x15, e_x15, hf⟩ := hf
      refine ax_getI fl_50 rfl dPa_append_64 e_x15 ?_
      refine ax_iload (i := 5) dPa_append_67 rfl ?_
      refine ax_iand dPa_append_69 ?_
      replace hf := bd1_s hf
      obtain ⟨h16, e_h16, hf⟩ := hf
      refine ax_putZ fw_50 rfl rfl dPa_append_70 e_h16 ?_
      refine ax_aload (i := 6) (some a5) dPa_append_73 rfl ?_
      refine ax_iconst (1 : Int32) dPa_append_75 k32_1 ?_
      replace hf := bd1_s hf
      obtain ⟨h17, e_h17, hf⟩ := hf
      refine ax_putZ fw_44 rfl rfl dPa_append_76 e_h17 ?_
      cases hf
      exact Hr _ _ dPa_append_79
    replace hf := hT
    clear hT
    replace hf := ite_c hf
    rcases hf with ⟨hc, hf⟩ | ⟨hc, hf⟩
    · refine ax_if_eqT 57 dPa_append_44 (by decide) hc ?_
      refine ax_lload_n (i := 3) dPa_append_57 rfl rfl ?_
      refine ax_mask [true, true, true, false, true, true, true] rfl [none, none, none, none, none, some (.int p3), some (va_rf (some a5))] rfl ?_
      cases hf
      exact K
    · refine ax_if_eqF 57 dPa_append_44 (by decide) hc ?_
      refine ax_aload (i := 6) (some a5) dPa_append_47 rfl ?_
      replace hf := bd1_s hf
      obtain ⟨x12, e_x12, hf⟩ := hf
      refine ax_getJ fl_48 rfl dPa_append_49 e_x12 ?_
      refine ax_lload_n (i := 3) dPa_append_52 rfl rfl ?_
      refine ax_lor dPa_append_53 ?_
      refine ax_goto 58 dPa_append_54 (by decide) ?_
      refine ax_mask [true, true, true, false, true, true, true] rfl [none, none, none, none, none, some (.int p3), some (va_rf (some a5))] rfl ?_
      cases hf
      exact K
  replace hf := hT
  clear hT
  replace hf := ite_c hf
  rcases hf with ⟨hc, hf⟩ | ⟨hc, hf⟩
  · refine ax_if_eqT 40 dPa_append_26 (by decide) hc ?_
    refine ax_mask [false, false, true, true, true, true, true] rfl [none, none, none, some (.long p2), none, some (.int p3), some (va_rf (some a5))] rfl ?_
    cases hf
    exact K
  · refine ax_if_eqF 40 dPa_append_26 (by decide) hc ?_
    refine ax_aload (i := 6) (some a5) dPa_append_29 rfl ?_
    refine ax_dup dPa_append_31 rfl ?_
    replace hf := bd1_s hf
    obtain ⟨x9, e_x9, hf⟩ := hf
    refine ax_getJ fl_46 rfl dPa_append_32 e_x9 ?_
    refine ax_lload_n (i := 1) dPa_append_35 rfl rfl ?_
    refine ax_lor dPa_append_36 ?_
    replace hf := bd1_s hf
    obtain ⟨h10, e_h10, hf⟩ := hf
    refine ax_putJ fw_46 rfl rfl dPa_append_37 e_h10 ?_
    refine ax_mask [false, false, true, true, true, true, true] rfl [none, none, none, some (.long p2), none, some (.int p3), some (va_rf (some a5))] rfl ?_
    cases hf
    exact K
theorem c_Pa_append {l : Launch} {E : EN} {h0 : AH} {o : Nat} {p1 : Int64} {p2 : Int64} {p3 : Int32} {hF : AH} (hf : f_Pa_append h0 o p1 p2 p3 = some hF) : AM l E 2 mi_Pa_append [va_rf (some o), .long p1, .long p2, .int p3] h0 none hF :=
  am_of2 [(va_rf (some o), false), (.long p1, true), (.long p2, true), (.int p3, false)] 1 ⟨cat_rf _, rfl, rfl, rfl, trivial⟩ rfl rfl (v_Pa_append (Nat.le_refl _) (Nat.le_refl _) (fun pc L hd => ax_vret rfl hd rfl) hf)
theorem v_Pa_acceptsMessage {l : Launch} {E : EN} {R : Room} {B : (Nat × Nat) × (Nat × Nat)} {Qf : QF} {h0 : AH} {o : Nat} {p1 : Int32} {r : Int32} {hF : AH} (hR1 : 3 ≤ R.frames) (hR2 : 192 ≤ R.locals) (Hr : (r = 0 ∨ r = 1) → ∀ (pc : Nat) (L : List (Option Value)), decode mi_Pa_acceptsMessage.2.1 pc = .ok (.ireturn, 1) → AW l E mi_Pa_acceptsMessage R B Qf pc L [.int r] hF) (hf : f_Pa_acceptsMessage h0 o p1 = some (r, hF)) : AW l E mi_Pa_acceptsMessage R B Qf 0 [some (va_rf (some o)), some (.int p1)] [] h0 := by
  unfold f_Pa_acceptsMessage at hf
  refine ax_iload_n (i := 1) dPa_acceptsMessage_0 rfl rfl ?_
  replace hf := bd1_s hf
  obtain ⟨x1, e_x1, hf⟩ := hf
  refine ax_callS (As := [.int p1]) (rest := []) (c_C_isMessage e_x1) ml_394 cm_C_isMessage (Nat.le_trans (Nat.le_of_ble_eq_true rfl) hR1) (Nat.le_trans (Nat.le_of_ble_eq_true rfl) hR2) rfl rfl (Nat.le_of_ble_eq_true rfl) dPa_acceptsMessage_1 ?_
  replace hf := ite_c hf
  rcases hf with ⟨hc, hf⟩ | ⟨hc, hf⟩
  · refine ax_if_eqT 16 dPa_acceptsMessage_4 (by decide) hc ?_
    refine ax_iconst (0 : Int32) dPa_acceptsMessage_16 k32_0 ?_
    cases hf
    exact Hr (Or.inl rfl) _ _ dPa_acceptsMessage_17
  · refine ax_if_eqF 16 dPa_acceptsMessage_4 (by decide) hc ?_
    refine ax_aload_n (i := 0) (some o) dPa_acceptsMessage_7 rfl rfl ?_
    replace hf := bd1_s hf
    obtain ⟨x2, e_x2, hf⟩ := hf
    refine ax_getI fl_85 rfl dPa_acceptsMessage_8 e_x2 ?_
    refine ax_bipush (40 : Int32) dPa_acceptsMessage_11 k8_40 ?_
    replace hf := ite_c hf
    rcases hf with ⟨hc, hf⟩ | ⟨hc, hf⟩
    · refine ax_icmp_ltT 18 dPa_acceptsMessage_13 (by decide) hc ?_
      refine ax_aload_n (i := 0) (some o) dPa_acceptsMessage_18 rfl rfl ?_
      refine ax_dup dPa_acceptsMessage_19 rfl ?_
      replace hf := bd1_s hf
      obtain ⟨x3, e_x3, hf⟩ := hf
      refine ax_getI fl_85 rfl dPa_acceptsMessage_20 e_x3 ?_
      refine ax_iconst (1 : Int32) dPa_acceptsMessage_23 k32_1 ?_
      refine ax_iadd dPa_acceptsMessage_24 ?_
      replace hf := bd1_s hf
      obtain ⟨h4, e_h4, hf⟩ := hf
      refine ax_putI fw_85 rfl rfl dPa_acceptsMessage_25 e_h4 ?_
      refine ax_aload_n (i := 0) (some o) dPa_acceptsMessage_28 rfl rfl ?_
      replace hf := bd1_s hf
      obtain ⟨r5, e_r5, hf⟩ := hf
      refine ax_getR fl_87 rfl dPa_acceptsMessage_29 e_r5 ?_
      refine ax_aload_n (i := 0) (some o) dPa_acceptsMessage_32 rfl rfl ?_
      replace hf := bd1_s hf
      obtain ⟨x6, e_x6, hf⟩ := hf
      refine ax_getI fl_85 rfl dPa_acceptsMessage_33 e_x6 ?_
      refine ax_aload_n (i := 0) (some o) dPa_acceptsMessage_36 rfl rfl ?_
      replace hf := bd1_s hf
      obtain ⟨x7, e_x7, hf⟩ := hf
      refine ax_getI fl_90 rfl dPa_acceptsMessage_37 e_x7 ?_
      refine ax_bipush (8 : Int32) dPa_acceptsMessage_40 k8_8 ?_
      refine ax_imul dPa_acceptsMessage_42 ?_
      refine ax_iload_n (i := 1) dPa_acceptsMessage_43 rfl rfl ?_
      refine ax_iadd dPa_acceptsMessage_44 ?_
      replace hf := bd1_s hf
      obtain ⟨a8, e_d, hf⟩ := hf
      subst e_d
      replace hf := bd1_s hf
      obtain ⟨h9, e_h9, hf⟩ := hf
      refine ax_iast dPa_acceptsMessage_45 e_h9 ?_
      refine ax_aload_n (i := 0) (some o) dPa_acceptsMessage_46 rfl rfl ?_
      replace hf := bd1_s hf
      obtain ⟨r10, e_r10, hf⟩ := hf
      refine ax_getR fl_89 rfl dPa_acceptsMessage_47 e_r10 ?_
      refine ax_aload_n (i := 0) (some o) dPa_acceptsMessage_50 rfl rfl ?_
      replace hf := bd1_s hf
      obtain ⟨x11, e_x11, hf⟩ := hf
      refine ax_getI fl_85 rfl dPa_acceptsMessage_51 e_x11 ?_
      refine ax_lconst (0 : Int64) dPa_acceptsMessage_54 kl_0 ?_
      replace hf := bd1_s hf
      obtain ⟨a12, e_d, hf⟩ := hf
      subst e_d
      replace hf := bd1_s hf
      obtain ⟨h13, e_h13, hf⟩ := hf
      refine ax_last dPa_acceptsMessage_55 e_h13 ?_
      refine ax_aload_n (i := 0) (some o) dPa_acceptsMessage_56 rfl rfl ?_
      refine ax_iconst (-1 : Int32) dPa_acceptsMessage_57 k32_m1 ?_
      replace hf := bd1_s hf
      obtain ⟨h14, e_h14, hf⟩ := hf
      refine ax_putI fw_90 rfl rfl dPa_acceptsMessage_58 e_h14 ?_
      refine ax_aload_n (i := 0) (some o) dPa_acceptsMessage_61 rfl rfl ?_
      refine ax_lconst (1 : Int64) dPa_acceptsMessage_62 kl_1 ?_
      refine ax_aload_n (i := 0) (some o) dPa_acceptsMessage_63 rfl rfl ?_
      replace hf := bd1_s hf
      obtain ⟨x15, e_x15, hf⟩ := hf
      refine ax_getI fl_85 rfl dPa_acceptsMessage_64 e_x15 ?_
      refine ax_lshl dPa_acceptsMessage_67 ?_
      refine ax_lconst (1 : Int64) dPa_acceptsMessage_68 kl_1 ?_
      refine ax_aload_n (i := 0) (some o) dPa_acceptsMessage_69 rfl rfl ?_
      replace hf := bd1_s hf
      obtain ⟨x16, e_x16, hf⟩ := hf
      refine ax_getI fl_85 rfl dPa_acceptsMessage_70 e_x16 ?_
      refine ax_lshl dPa_acceptsMessage_73 ?_
      refine ax_iconst (0 : Int32) dPa_acceptsMessage_74 k32_0 ?_
      replace hf := bd1_s hf
      obtain ⟨h17, e_h17, hf⟩ := hf
      obtain ⟨k_e_h17, e_h17⟩ := cv_s e_h17
      refine ax_callV (As := [.long (xlshl (1 : Int64) x15), .long (xlshl (1 : Int64) x16), .int (0 : Int32)]) (rest := []) (c_Pa_append e_h17) ml_397 cm_Pa_append rfl k_e_h17 (Nat.le_trans (Nat.le_of_ble_eq_true rfl) hR1) (Nat.le_trans (Nat.le_of_ble_eq_true rfl) hR2) rfl rfl (Nat.le_of_ble_eq_true rfl) dPa_acceptsMessage_75 ?_
      refine ax_iconst (1 : Int32) dPa_acceptsMessage_78 k32_1 ?_
      cases hf
      exact Hr (Or.inr rfl) _ _ dPa_acceptsMessage_79
    · refine ax_icmp_ltF 18 dPa_acceptsMessage_13 (by decide) hc ?_
      refine ax_iconst (0 : Int32) dPa_acceptsMessage_16 k32_0 ?_
      cases hf
      exact Hr (Or.inl rfl) _ _ dPa_acceptsMessage_17
theorem c_Pa_acceptsMessage {l : Launch} {E : EN} {h0 : AH} {o : Nat} {p1 : Int32} {r : Int32} {hF : AH} (hf : f_Pa_acceptsMessage h0 o p1 = some (r, hF)) : AM l E 3 mi_Pa_acceptsMessage [va_rf (some o), .int p1] h0 (some (.int r)) hF :=
  am_of2 [(va_rf (some o), false), (.int p1, false)] 0 ⟨cat_rf _, rfl, trivial⟩ rfl rfl (v_Pa_acceptsMessage (Nat.le_refl _) (Nat.le_refl _) (fun hz pc L hd => ax_zret rfl hz hd rfl) hf)
theorem v_Pa_opens {l : Launch} {E : EN} {R : Room} {B : (Nat × Nat) × (Nat × Nat)} {Qf : QF} {h0 : AH} {o : Nat} {p1 : Int32} {r : Int32} {hF : AH} (hR1 : 3 ≤ R.frames) (hR2 : 192 ≤ R.locals) (Hr : (r = 0 ∨ r = 1) → ∀ (pc : Nat) (L : List (Option Value)), decode mi_Pa_opens.2.1 pc = .ok (.ireturn, 1) → AW l E mi_Pa_opens R B Qf pc L [.int r] hF) (hf : f_Pa_opens h0 o p1 = some (r, hF)) : AW l E mi_Pa_opens R B Qf 0 [some (va_rf (some o)), some (.int p1)] [] h0 := by
  unfold f_Pa_opens at hf
  refine ax_aload_n (i := 0) (some o) dPa_opens_0 rfl rfl ?_
  replace hf := bd1_s hf
  obtain ⟨x1, e_x1, hf⟩ := hf
  refine ax_getI fl_83 rfl dPa_opens_1 e_x1 ?_
  refine ax_bipush (80 : Int32) dPa_opens_4 k8_80 ?_
  replace hf := ite_c hf
  rcases hf with ⟨hc, hf⟩ | ⟨hc, hf⟩
  · refine ax_icmp_ltT 11 dPa_opens_6 (by decide) hc ?_
    refine ax_aload_n (i := 0) (some o) dPa_opens_11 rfl rfl ?_
    refine ax_dup dPa_opens_12 rfl ?_
    replace hf := bd1_s hf
    obtain ⟨x2, e_x2, hf⟩ := hf
    refine ax_getI fl_83 rfl dPa_opens_13 e_x2 ?_
    refine ax_iconst (1 : Int32) dPa_opens_16 k32_1 ?_
    refine ax_iadd dPa_opens_17 ?_
    replace hf := bd1_s hf
    obtain ⟨h3, e_h3, hf⟩ := hf
    refine ax_putI fw_83 rfl rfl dPa_opens_18 e_h3 ?_
    refine ax_aload_n (i := 0) (some o) dPa_opens_21 rfl rfl ?_
    replace hf := bd1_s hf
    obtain ⟨r4, e_r4, hf⟩ := hf
    refine ax_getR fl_82 rfl dPa_opens_22 e_r4 ?_
    refine ax_aload_n (i := 0) (some o) dPa_opens_25 rfl rfl ?_
    replace hf := bd1_s hf
    obtain ⟨x5, e_x5, hf⟩ := hf
    refine ax_getI fl_83 rfl dPa_opens_26 e_x5 ?_
    replace hf := bd1_s hf
    obtain ⟨a6, e_d, hf⟩ := hf
    subst e_d
    replace hf := bd1_s hf
    obtain ⟨r7, e_r7, hf⟩ := hf
    refine ax_aald (c := 5) (by decide) rfl rfl dPa_opens_29 e_r7 ?_
    refine ax_iload_n (i := 1) dPa_opens_30 rfl rfl ?_
    replace hf := bd1_s hf
    obtain ⟨a8, e_d, hf⟩ := hf
    subst e_d
    replace hf := bd1_s hf
    obtain ⟨h9, e_h9, hf⟩ := hf
    obtain ⟨k_e_h9, e_h9⟩ := cv_s e_h9
    refine ax_callV (As := [.int p1]) (rest := []) (c_Le_open e_h9) ml_378 cm_Le_open rfl k_e_h9 (Nat.le_trans (Nat.le_of_ble_eq_true rfl) hR1) (Nat.le_trans (Nat.le_of_ble_eq_true rfl) hR2) rfl rfl (Nat.le_of_ble_eq_true rfl) dPa_opens_31 ?_
    refine ax_iconst (1 : Int32) dPa_opens_34 k32_1 ?_
    cases hf
    exact Hr (Or.inr rfl) _ _ dPa_opens_35
  · refine ax_icmp_ltF 11 dPa_opens_6 (by decide) hc ?_
    refine ax_iconst (0 : Int32) dPa_opens_9 k32_0 ?_
    cases hf
    exact Hr (Or.inl rfl) _ _ dPa_opens_10
theorem c_Pa_opens {l : Launch} {E : EN} {h0 : AH} {o : Nat} {p1 : Int32} {r : Int32} {hF : AH} (hf : f_Pa_opens h0 o p1 = some (r, hF)) : AM l E 3 mi_Pa_opens [va_rf (some o), .int p1] h0 (some (.int r)) hF :=
  am_of2 [(va_rf (some o), false), (.int p1, false)] 0 ⟨cat_rf _, rfl, trivial⟩ rfl rfl (v_Pa_opens (Nat.le_refl _) (Nat.le_refl _) (fun hz pc L hd => ax_zret rfl hz hd rfl) hf)
theorem v_Le_mayBar {l : Launch} {E : EN} {R : Room} {B : (Nat × Nat) × (Nat × Nat)} {Qf : QF} {h0 : AH} {o : Nat} {r : Int32} (hR1 : 1 ≤ R.frames) (hR2 : 64 ≤ R.locals) (Hr : (r = 0 ∨ r = 1) → ∀ (pc : Nat) (L : List (Option Value)), decode mi_Le_mayBar.2.1 pc = .ok (.ireturn, 1) → AW l E mi_Le_mayBar R B Qf pc L [.int r] h0) (hf : f_Le_mayBar h0 o = some r) : AW l E mi_Le_mayBar R B Qf 0 [some (va_rf (some o))] [] h0 := by
  unfold f_Le_mayBar at hf
  refine ax_aload_n (i := 0) (some o) dLe_mayBar_0 rfl rfl ?_
  replace hf := bd1_s hf
  obtain ⟨x1, e_x1, hf⟩ := hf
  refine ax_getI fl_40 rfl dLe_mayBar_1 e_x1 ?_
  refine ax_bipush (40 : Int32) dLe_mayBar_4 k8_40 ?_
  replace hf := ite_c hf
  rcases hf with ⟨hc, hf⟩ | ⟨hc, hf⟩
  · refine ax_icmp_neF 20 dLe_mayBar_6 (by decide) hc ?_
    refine ax_aload_n (i := 0) (some o) dLe_mayBar_9 rfl rfl ?_
    replace hf := bd1_s hf
    obtain ⟨x2, e_x2, hf⟩ := hf
    refine ax_getI fl_43 rfl dLe_mayBar_10 e_x2 ?_
    replace hf := ite_c hf
    rcases hf with ⟨hc, hf⟩ | ⟨hc, hf⟩
    · refine ax_if_eqT 20 dLe_mayBar_13 (by decide) hc ?_
      refine ax_iconst (0 : Int32) dLe_mayBar_20 k32_0 ?_
      cases hf
      exact Hr (Or.inl rfl) _ _ dLe_mayBar_21
    · refine ax_if_eqF 20 dLe_mayBar_13 (by decide) hc ?_
      refine ax_iconst (1 : Int32) dLe_mayBar_16 k32_1 ?_
      refine ax_goto 21 dLe_mayBar_17 (by decide) ?_
      cases hf
      exact Hr (Or.inr rfl) _ _ dLe_mayBar_21
  · refine ax_icmp_neT 20 dLe_mayBar_6 (by decide) hc ?_
    refine ax_iconst (0 : Int32) dLe_mayBar_20 k32_0 ?_
    cases hf
    exact Hr (Or.inl rfl) _ _ dLe_mayBar_21
theorem c_Le_mayBar {l : Launch} {E : EN} {h0 : AH} {o : Nat} {r : Int32} (hf : f_Le_mayBar h0 o = some r) : AM l E 1 mi_Le_mayBar [va_rf (some o)] h0 (some (.int r)) h0 :=
  am_of2 [(va_rf (some o), false)] 0 ⟨cat_rf _, trivial⟩ rfl rfl (v_Le_mayBar (Nat.le_refl _) (Nat.le_refl _) (fun hz pc L hd => ax_zret rfl hz hd rfl) hf)
theorem v_Le_endBranch {l : Launch} {E : EN} {R : Room} {B : (Nat × Nat) × (Nat × Nat)} {Qf : QF} {h0 : AH} {o : Nat} {hF : AH} (hR1 : 2 ≤ R.frames) (hR2 : 128 ≤ R.locals) (Hr : ∀ (pc : Nat) (L : List (Option Value)), decode mi_Le_endBranch.2.1 pc = .ok (.return_, 1) → AW l E mi_Le_endBranch R B Qf pc L [] hF) (hf : f_Le_endBranch h0 o = some hF) : AW l E mi_Le_endBranch R B Qf 0 [some (va_rf (some o))] [] h0 := by
  unfold f_Le_endBranch at hf
  refine ax_aload_n (i := 0) (some o) dLe_endBranch_0 rfl rfl ?_
  refine ax_dup dLe_endBranch_1 rfl ?_
  replace hf := bd1_s hf
  obtain ⟨x1, e_x1, hf⟩ := hf
  refine ax_getJ fl_51 rfl dLe_endBranch_2 e_x1 ?_
  refine ax_aload_n (i := 0) (some o) dLe_endBranch_5 rfl rfl ?_
  replace hf := bd1_s hf
  obtain ⟨x2, e_x2, hf⟩ := hf
  refine ax_getJ fl_45 rfl dLe_endBranch_6 e_x2 ?_
  refine ax_lor dLe_endBranch_9 ?_
  replace hf := bd1_s hf
  obtain ⟨h3, e_h3, hf⟩ := hf
  refine ax_putJ fw_51 rfl rfl dLe_endBranch_10 e_h3 ?_
  refine ax_aload_n (i := 0) (some o) dLe_endBranch_13 rfl rfl ?_
  refine ax_dup dLe_endBranch_14 rfl ?_
  replace hf := bd1_s hf
  obtain ⟨x4, e_x4, hf⟩ := hf
  refine ax_getJ fl_53 rfl dLe_endBranch_15 e_x4 ?_
  refine ax_aload_n (i := 0) (some o) dLe_endBranch_18 rfl rfl ?_
  replace hf := bd1_s hf
  obtain ⟨x5, e_x5, hf⟩ := hf
  refine ax_getJ fl_47 rfl dLe_endBranch_19 e_x5 ?_
  refine ax_lor dLe_endBranch_22 ?_
  replace hf := bd1_s hf
  obtain ⟨h6, e_h6, hf⟩ := hf
  refine ax_putJ fw_53 rfl rfl dLe_endBranch_23 e_h6 ?_
  refine ax_aload_n (i := 0) (some o) dLe_endBranch_26 rfl rfl ?_
  refine ax_dup dLe_endBranch_27 rfl ?_
  replace hf := bd1_s hf
  obtain ⟨x7, e_x7, hf⟩ := hf
  refine ax_getI fl_55 rfl dLe_endBranch_28 e_x7 ?_
  refine ax_aload_n (i := 0) (some o) dLe_endBranch_31 rfl rfl ?_
  replace hf := bd1_s hf
  obtain ⟨x8, e_x8, hf⟩ := hf
  refine ax_getI fl_49 rfl dLe_endBranch_32 e_x8 ?_
  refine ax_ior dLe_endBranch_35 ?_
  replace hf := bd1_s hf
  obtain ⟨h9, e_h9, hf⟩ := hf
  refine ax_putZ fw_55 rfl rfl dLe_endBranch_36 e_h9 ?_
  refine ax_aload_n (i := 0) (some o) dLe_endBranch_39 rfl rfl ?_
  replace hf := bd1_s hf
  obtain ⟨h10, e_h10, hf⟩ := hf
  obtain ⟨k_e_h10, e_h10⟩ := cv_s e_h10
  refine ax_callV (As := []) (rest := []) (c_Le_startTalk e_h10) ml_382 cm_Le_startTalk rfl k_e_h10 (Nat.le_trans (Nat.le_of_ble_eq_true rfl) hR1) (Nat.le_trans (Nat.le_of_ble_eq_true rfl) hR2) rfl rfl (Nat.le_of_ble_eq_true rfl) dLe_endBranch_40 ?_
  cases hf
  exact Hr _ _ dLe_endBranch_43
theorem c_Le_endBranch {l : Launch} {E : EN} {h0 : AH} {o : Nat} {hF : AH} (hf : f_Le_endBranch h0 o = some hF) : AM l E 2 mi_Le_endBranch [va_rf (some o)] h0 none hF :=
  am_of2 [(va_rf (some o), false)] 0 ⟨cat_rf _, trivial⟩ rfl rfl (v_Le_endBranch (Nat.le_refl _) (Nat.le_refl _) (fun pc L hd => ax_vret rfl hd rfl) hf)
theorem v_Pa_bars {l : Launch} {E : EN} {R : Room} {B : (Nat × Nat) × (Nat × Nat)} {Qf : QF} {h0 : AH} {o : Nat} {r : Int32} {hF : AH} (hR1 : 3 ≤ R.frames) (hR2 : 192 ≤ R.locals) (Hr : (r = 0 ∨ r = 1) → ∀ (pc : Nat) (L : List (Option Value)), decode mi_Pa_bars.2.1 pc = .ok (.ireturn, 1) → AW l E mi_Pa_bars R B Qf pc L [.int r] hF) (hf : f_Pa_bars h0 o = some (r, hF)) : AW l E mi_Pa_bars R B Qf 0 [some (va_rf (some o)), none] [] h0 := by
  unfold f_Pa_bars at hf
  refine ax_aload_n (i := 0) (some o) dPa_bars_0 rfl rfl ?_
  replace hf := bd1_s hf
  obtain ⟨r1, e_r1, hf⟩ := hf
  refine ax_getR fl_82 rfl dPa_bars_1 e_r1 ?_
  refine ax_aload_n (i := 0) (some o) dPa_bars_4 rfl rfl ?_
  replace hf := bd1_s hf
  obtain ⟨x2, e_x2, hf⟩ := hf
  refine ax_getI fl_83 rfl dPa_bars_5 e_x2 ?_
  replace hf := bd1_s hf
  obtain ⟨a3, e_d, hf⟩ := hf
  subst e_d
  replace hf := bd1_s hf
  obtain ⟨r4, e_r4, hf⟩ := hf
  refine ax_aald (c := 5) (by decide) rfl rfl dPa_bars_8 e_r4 ?_
  refine ax_astore_n (i := 1) (r := r4) [some (va_rf (some o)), some (va_rf r4)] dPa_bars_9 rfl (Nat.le_of_ble_eq_true rfl) (Or.inr (c1r rfl)) rfl ?_
  refine ax_aload_n (i := 1) r4 dPa_bars_10 rfl rfl ?_
  replace hf := bd1_s hf
  obtain ⟨a5, e_d, hf⟩ := hf
  subst e_d
  replace hf := bd1_s hf
  obtain ⟨x6, e_x6, hf⟩ := hf
  obtain ⟨k_e_x6, e_x6⟩ := cv_s e_x6
  refine ax_callV (As := []) (rest := []) (c_Le_mayBar e_x6) ml_413 cm_Le_mayBar rfl k_e_x6 (Nat.le_trans (Nat.le_of_ble_eq_true rfl) hR1) (Nat.le_trans (Nat.le_of_ble_eq_true rfl) hR2) rfl rfl (Nat.le_of_ble_eq_true rfl) dPa_bars_11 ?_
  replace hf := ite_c hf
  rcases hf with ⟨hc, hf⟩ | ⟨hc, hf⟩
  · refine ax_if_neF 19 dPa_bars_14 (by decide) hc ?_
    refine ax_iconst (0 : Int32) dPa_bars_17 k32_0 ?_
    cases hf
    exact Hr (Or.inl rfl) _ _ dPa_bars_18
  · refine ax_if_neT 19 dPa_bars_14 (by decide) hc ?_
    refine ax_aload_n (i := 1) (some a5) dPa_bars_19 rfl rfl ?_
    refine ax_iconst (1 : Int32) dPa_bars_20 k32_1 ?_
    replace hf := bd1_s hf
    obtain ⟨h7, e_h7, hf⟩ := hf
    refine ax_putZ fw_42 rfl rfl dPa_bars_21 e_h7 ?_
    refine ax_aload_n (i := 1) (some a5) dPa_bars_24 rfl rfl ?_
    replace hf := bd1_s hf
    obtain ⟨h8, e_h8, hf⟩ := hf
    obtain ⟨k_e_h8, e_h8⟩ := cv_s e_h8
    refine ax_callV (As := []) (rest := []) (c_Le_endBranch e_h8) ml_417 cm_Le_endBranch rfl k_e_h8 (Nat.le_trans (Nat.le_of_ble_eq_true rfl) hR1) (Nat.le_trans (Nat.le_of_ble_eq_true rfl) hR2) rfl rfl (Nat.le_of_ble_eq_true rfl) dPa_bars_25 ?_
    refine ax_iconst (1 : Int32) dPa_bars_28 k32_1 ?_
    cases hf
    exact Hr (Or.inr rfl) _ _ dPa_bars_29
theorem c_Pa_bars {l : Launch} {E : EN} {h0 : AH} {o : Nat} {r : Int32} {hF : AH} (hf : f_Pa_bars h0 o = some (r, hF)) : AM l E 3 mi_Pa_bars [va_rf (some o)] h0 (some (.int r)) hF :=
  am_of2 [(va_rf (some o), false)] 1 ⟨cat_rf _, trivial⟩ rfl rfl (v_Pa_bars (Nat.le_refl _) (Nat.le_refl _) (fun hz pc L hd => ax_zret rfl hz hd rfl) hf)
theorem v_Le_mayClose {l : Launch} {E : EN} {R : Room} {B : (Nat × Nat) × (Nat × Nat)} {Qf : QF} {h0 : AH} {o : Nat} {p1 : Int32} {r : Int32} (hR1 : 1 ≤ R.frames) (hR2 : 64 ≤ R.locals) (Hr : (r = 0 ∨ r = 1) → ∀ (pc : Nat) (L : List (Option Value)), decode mi_Le_mayClose.2.1 pc = .ok (.ireturn, 1) → AW l E mi_Le_mayClose R B Qf pc L [.int r] h0) (hf : f_Le_mayClose h0 o p1 = some r) : AW l E mi_Le_mayClose R B Qf 0 [some (va_rf (some o)), some (.int p1)] [] h0 := by
  unfold f_Le_mayClose at hf
  refine ax_aload_n (i := 0) (some o) dLe_mayClose_0 rfl rfl ?_
  replace hf := bd1_s hf
  obtain ⟨x1, e_x1, hf⟩ := hf
  refine ax_getI fl_43 rfl dLe_mayClose_1 e_x1 ?_
  replace hf := ite_c hf
  rcases hf with ⟨hc, hf⟩ | ⟨hc, hf⟩
  · refine ax_if_eqT 45 dLe_mayClose_4 (by decide) hc ?_
    refine ax_iconst (0 : Int32) dLe_mayClose_45 k32_0 ?_
    cases hf
    exact Hr (Or.inl rfl) _ _ dLe_mayClose_46
  · refine ax_if_eqF 45 dLe_mayClose_4 (by decide) hc ?_
    refine ax_iload_n (i := 1) dLe_mayClose_7 rfl rfl ?_
    refine ax_bipush (41 : Int32) dLe_mayClose_8 k8_41 ?_
    replace hf := ite_c hf
    rcases hf with ⟨hc, hf⟩ | ⟨hc, hf⟩
    · refine ax_icmp_neF 32 dLe_mayClose_10 (by decide) hc ?_
      refine ax_aload_n (i := 0) (some o) dLe_mayClose_13 rfl rfl ?_
      replace hf := bd1_s hf
      obtain ⟨x3, e_x3, hf⟩ := hf
      refine ax_getI fl_40 rfl dLe_mayClose_14 e_x3 ?_
      refine ax_bipush (40 : Int32) dLe_mayClose_17 k8_40 ?_
      replace hf := ite_c hf
      rcases hf with ⟨hc, hf⟩ | ⟨hc, hf⟩
      · refine ax_icmp_neF 45 dLe_mayClose_19 (by decide) hc ?_
        refine ax_aload_n (i := 0) (some o) dLe_mayClose_22 rfl rfl ?_
        replace hf := bd1_s hf
        obtain ⟨x4, e_x4, hf⟩ := hf
        refine ax_getI fl_41 rfl dLe_mayClose_23 e_x4 ?_
        replace hf := ite_c hf
        rcases hf with ⟨hc, hf⟩ | ⟨hc, hf⟩
        · refine ax_if_eqT 45 dLe_mayClose_26 (by decide) hc ?_
          refine ax_iconst (0 : Int32) dLe_mayClose_45 k32_0 ?_
          cases hf
          exact Hr (Or.inl rfl) _ _ dLe_mayClose_46
        · refine ax_if_eqF 45 dLe_mayClose_26 (by decide) hc ?_
          refine ax_goto 41 dLe_mayClose_29 (by decide) ?_
          refine ax_iconst (1 : Int32) dLe_mayClose_41 k32_1 ?_
          refine ax_goto 46 dLe_mayClose_42 (by decide) ?_
          cases hf
          exact Hr (Or.inr rfl) _ _ dLe_mayClose_46
      · refine ax_icmp_neT 45 dLe_mayClose_19 (by decide) hc ?_
        refine ax_iconst (0 : Int32) dLe_mayClose_45 k32_0 ?_
        cases hf
        exact Hr (Or.inl rfl) _ _ dLe_mayClose_46
    · refine ax_icmp_neT 32 dLe_mayClose_10 (by decide) hc ?_
      refine ax_aload_n (i := 0) (some o) dLe_mayClose_32 rfl rfl ?_
      replace hf := bd1_s hf
      obtain ⟨x2, e_x2, hf⟩ := hf
      refine ax_getI fl_40 rfl dLe_mayClose_33 e_x2 ?_
      refine ax_bipush (123 : Int32) dLe_mayClose_36 k8_123 ?_
      replace hf := ite_c hf
      rcases hf with ⟨hc, hf⟩ | ⟨hc, hf⟩
      · refine ax_icmp_neF 45 dLe_mayClose_38 (by decide) hc ?_
        refine ax_iconst (1 : Int32) dLe_mayClose_41 k32_1 ?_
        refine ax_goto 46 dLe_mayClose_42 (by decide) ?_
        cases hf
        exact Hr (Or.inr rfl) _ _ dLe_mayClose_46
      · refine ax_icmp_neT 45 dLe_mayClose_38 (by decide) hc ?_
        refine ax_iconst (0 : Int32) dLe_mayClose_45 k32_0 ?_
        cases hf
        exact Hr (Or.inl rfl) _ _ dLe_mayClose_46
theorem c_Le_mayClose {l : Launch} {E : EN} {h0 : AH} {o : Nat} {p1 : Int32} {r : Int32} (hf : f_Le_mayClose h0 o p1 = some r) : AM l E 1 mi_Le_mayClose [va_rf (some o), .int p1] h0 (some (.int r)) h0 :=
  am_of2 [(va_rf (some o), false), (.int p1, false)] 0 ⟨cat_rf _, rfl, trivial⟩ rfl rfl (v_Le_mayClose (Nat.le_refl _) (Nat.le_refl _) (fun hz pc L hd => ax_zret rfl hz hd rfl) hf)
theorem v_Pa_closes {l : Launch} {E : EN} {R : Room} {B : (Nat × Nat) × (Nat × Nat)} {Qf : QF} {h0 : AH} {o : Nat} {p1 : Int32} {r : Int32} {hF : AH} (hR1 : 3 ≤ R.frames) (hR2 : 192 ≤ R.locals) (Hr : (r = 0 ∨ r = 1) → ∀ (pc : Nat) (L : List (Option Value)), decode mi_Pa_closes.2.1 pc = .ok (.ireturn, 1) → AW l E mi_Pa_closes R B Qf pc L [.int r] hF) (hf : f_Pa_closes h0 o p1 = some (r, hF)) : AW l E mi_Pa_closes R B Qf 0 [some (va_rf (some o)), some (.int p1), none] [] h0 := by
  unfold f_Pa_closes at hf
  refine ax_aload_n (i := 0) (some o) dPa_closes_0 rfl rfl ?_
  replace hf := bd1_s hf
  obtain ⟨r1, e_r1, hf⟩ := hf
  refine ax_getR fl_82 rfl dPa_closes_1 e_r1 ?_
  refine ax_aload_n (i := 0) (some o) dPa_closes_4 rfl rfl ?_
  replace hf := bd1_s hf
  obtain ⟨x2, e_x2, hf⟩ := hf
  refine ax_getI fl_83 rfl dPa_closes_5 e_x2 ?_
  replace hf := bd1_s hf
  obtain ⟨a3, e_d, hf⟩ := hf
  subst e_d
  replace hf := bd1_s hf
  obtain ⟨r4, e_r4, hf⟩ := hf
  refine ax_aald (c := 5) (by decide) rfl rfl dPa_closes_8 e_r4 ?_
  refine ax_astore_n (i := 2) (r := r4) [some (va_rf (some o)), some (.int p1), some (va_rf r4)] dPa_closes_9 rfl (Nat.le_of_ble_eq_true rfl) (Or.inr (c1i rfl)) rfl ?_
  refine ax_aload_n (i := 0) (some o) dPa_closes_10 rfl rfl ?_
  replace hf := bd1_s hf
  obtain ⟨x5, e_x5, hf⟩ := hf
  refine ax_getI fl_83 rfl dPa_closes_11 e_x5 ?_
  replace hf := ite_c hf
  rcases hf with ⟨hc, hf⟩ | ⟨hc, hf⟩
  · refine ax_if_eqT 25 dPa_closes_14 (by decide) hc ?_
    refine ax_iconst (0 : Int32) dPa_closes_25 k32_0 ?_
    cases hf
    exact Hr (Or.inl rfl) _ _ dPa_closes_26
  · refine ax_if_eqF 25 dPa_closes_14 (by decide) hc ?_
    refine ax_aload_n (i := 2) r4 dPa_closes_17 rfl rfl ?_
    refine ax_iload_n (i := 1) dPa_closes_18 rfl rfl ?_
    replace hf := bd1_s hf
    obtain ⟨a6, e_d, hf⟩ := hf
    subst e_d
    replace hf := bd1_s hf
    obtain ⟨x7, e_x7, hf⟩ := hf
    obtain ⟨k_e_x7, e_x7⟩ := cv_s e_x7
    refine ax_callV (As := [.int p1]) (rest := []) (c_Le_mayClose e_x7) ml_425 cm_Le_mayClose rfl k_e_x7 (Nat.le_trans (Nat.le_of_ble_eq_true rfl) hR1) (Nat.le_trans (Nat.le_of_ble_eq_true rfl) hR2) rfl rfl (Nat.le_of_ble_eq_true rfl) dPa_closes_19 ?_
    replace hf := ite_c hf
    rcases hf with ⟨hc, hf⟩ | ⟨hc, hf⟩
    · refine ax_if_neF 27 dPa_closes_22 (by decide) hc ?_
      refine ax_iconst (0 : Int32) dPa_closes_25 k32_0 ?_
      cases hf
      exact Hr (Or.inl rfl) _ _ dPa_closes_26
    · refine ax_if_neT 27 dPa_closes_22 (by decide) hc ?_
      refine ax_aload_n (i := 0) (some o) dPa_closes_27 rfl rfl ?_
      refine ax_dup dPa_closes_28 rfl ?_
      replace hf := bd1_s hf
      obtain ⟨x8, e_x8, hf⟩ := hf
      refine ax_getI fl_83 rfl dPa_closes_29 e_x8 ?_
      refine ax_iconst (1 : Int32) dPa_closes_32 k32_1 ?_
      refine ax_isub dPa_closes_33 ?_
      replace hf := bd1_s hf
      obtain ⟨h9, e_h9, hf⟩ := hf
      refine ax_putI fw_83 rfl rfl dPa_closes_34 e_h9 ?_
      refine ax_iload_n (i := 1) dPa_closes_37 rfl rfl ?_
      refine ax_bipush (125 : Int32) dPa_closes_38 k8_125 ?_
      replace hf := ite_c hf
      rcases hf with ⟨hc, hf⟩ | ⟨hc, hf⟩
      · refine ax_icmp_neF 71 dPa_closes_40 (by decide) hc ?_
        refine ax_aload_n (i := 0) (some o) dPa_closes_43 rfl rfl ?_
        refine ax_aload_n (i := 2) (some a6) dPa_closes_44 rfl rfl ?_
        replace hf := bd1_s hf
        obtain ⟨x15, e_x15, hf⟩ := hf
        refine ax_getJ fl_48 rfl dPa_closes_45 e_x15 ?_
        refine ax_aload_n (i := 2) (some a6) dPa_closes_48 rfl rfl ?_
        replace hf := bd1_s hf
        obtain ⟨x16, e_x16, hf⟩ := hf
        refine ax_getJ fl_46 rfl dPa_closes_49 e_x16 ?_
        replace hf := bd1_s hf
        obtain ⟨h17, e_h17, hf⟩ := hf
        obtain ⟨k_e_h17, e_h17⟩ := cv_s e_h17
        refine ax_callV (As := [.long x15, .long x16]) (rest := []) (c_Pa_link e_h17) ml_401 cm_Pa_link rfl k_e_h17 (Nat.le_trans (Nat.le_of_ble_eq_true rfl) hR1) (Nat.le_trans (Nat.le_of_ble_eq_true rfl) hR2) rfl rfl (Nat.le_of_ble_eq_true rfl) dPa_closes_52 ?_
        refine ax_aload_n (i := 0) (some o) dPa_closes_55 rfl rfl ?_
        refine ax_aload_n (i := 2) (some a6) dPa_closes_56 rfl rfl ?_
        replace hf := bd1_s hf
        obtain ⟨x18, e_x18, hf⟩ := hf
        refine ax_getJ fl_46 rfl dPa_closes_57 e_x18 ?_
        refine ax_aload_n (i := 2) (some a6) dPa_closes_60 rfl rfl ?_
        replace hf := bd1_s hf
        obtain ⟨x19, e_x19, hf⟩ := hf
        refine ax_getJ fl_48 rfl dPa_closes_61 e_x19 ?_
        refine ax_iconst (1 : Int32) dPa_closes_64 k32_1 ?_
        replace hf := bd1_s hf
        obtain ⟨h20, e_h20, hf⟩ := hf
        obtain ⟨k_e_h20, e_h20⟩ := cv_s e_h20
        refine ax_callV (As := [.long x18, .long x19, .int (1 : Int32)]) (rest := []) (c_Pa_append e_h20) ml_397 cm_Pa_append rfl k_e_h20 (Nat.le_trans (Nat.le_of_ble_eq_true rfl) hR1) (Nat.le_trans (Nat.le_of_ble_eq_true rfl) hR2) rfl rfl (Nat.le_of_ble_eq_true rfl) dPa_closes_65 ?_
        refine ax_goto 91 dPa_closes_68 (by decide) ?_
        refine ax_iconst (1 : Int32) dPa_closes_91 k32_1 ?_
        cases hf
        exact Hr (Or.inr rfl) _ _ dPa_closes_92
      · refine ax_icmp_neT 71 dPa_closes_40 (by decide) hc ?_
        refine ax_aload_n (i := 2) (some a6) dPa_closes_71 rfl rfl ?_
        replace hf := bd1_s hf
        obtain ⟨h10, e_h10, hf⟩ := hf
        obtain ⟨k_e_h10, e_h10⟩ := cv_s e_h10
        refine ax_callV (As := []) (rest := []) (c_Le_endBranch e_h10) ml_417 cm_Le_endBranch rfl k_e_h10 (Nat.le_trans (Nat.le_of_ble_eq_true rfl) hR1) (Nat.le_trans (Nat.le_of_ble_eq_true rfl) hR2) rfl rfl (Nat.le_of_ble_eq_true rfl) dPa_closes_72 ?_
        refine ax_aload_n (i := 0) (some o) dPa_closes_75 rfl rfl ?_
        refine ax_aload_n (i := 2) (some a6) dPa_closes_76 rfl rfl ?_
        replace hf := bd1_s hf
        obtain ⟨x11, e_x11, hf⟩ := hf
        refine ax_getJ fl_52 rfl dPa_closes_77 e_x11 ?_
        refine ax_aload_n (i := 2) (some a6) dPa_closes_80 rfl rfl ?_
        replace hf := bd1_s hf
        obtain ⟨x12, e_x12, hf⟩ := hf
        refine ax_getJ fl_54 rfl dPa_closes_81 e_x12 ?_
        refine ax_aload_n (i := 2) (some a6) dPa_closes_84 rfl rfl ?_
        replace hf := bd1_s hf
        obtain ⟨x13, e_x13, hf⟩ := hf
        refine ax_getI fl_56 rfl dPa_closes_85 e_x13 ?_
        replace hf := bd1_s hf
        obtain ⟨h14, e_h14, hf⟩ := hf
        obtain ⟨k_e_h14, e_h14⟩ := cv_s e_h14
        refine ax_callV (As := [.long x11, .long x12, .int x13]) (rest := []) (c_Pa_append e_h14) ml_397 cm_Pa_append rfl k_e_h14 (Nat.le_trans (Nat.le_of_ble_eq_true rfl) hR1) (Nat.le_trans (Nat.le_of_ble_eq_true rfl) hR2) rfl rfl (Nat.le_of_ble_eq_true rfl) dPa_closes_88 ?_
        refine ax_iconst (1 : Int32) dPa_closes_91 k32_1 ?_
        cases hf
        exact Hr (Or.inr rfl) _ _ dPa_closes_92
theorem c_Pa_closes {l : Launch} {E : EN} {h0 : AH} {o : Nat} {p1 : Int32} {r : Int32} {hF : AH} (hf : f_Pa_closes h0 o p1 = some (r, hF)) : AM l E 3 mi_Pa_closes [va_rf (some o), .int p1] h0 (some (.int r)) hF :=
  am_of2 [(va_rf (some o), false), (.int p1, false)] 1 ⟨cat_rf _, rfl, trivial⟩ rfl rfl (v_Pa_closes (Nat.le_refl _) (Nat.le_refl _) (fun hz pc L hd => ax_zret rfl hz hd rfl) hf)
theorem v_Pa_accepts {l : Launch} {E : EN} {R : Room} {B : (Nat × Nat) × (Nat × Nat)} {Qf : QF} {h0 : AH} {o : Nat} {p1 : Int32} {r : Int32} {hF : AH} (hR1 : 4 ≤ R.frames) (hR2 : 256 ≤ R.locals) (Hr : (r = 0 ∨ r = 1) → ∀ (pc : Nat) (L : List (Option Value)), decode mi_Pa_accepts.2.1 pc = .ok (.ireturn, 1) → AW l E mi_Pa_accepts R B Qf pc L [.int r] hF) (hf : f_Pa_accepts h0 o p1 = some (r, hF)) : AW l E mi_Pa_accepts R B Qf 0 [some (va_rf (some o)), some (.int p1)] [] h0 := by
  unfold f_Pa_accepts at hf
  refine ax_aload_n (i := 0) (some o) dPa_accepts_0 rfl rfl ?_
  replace hf := bd1_s hf
  obtain ⟨x1, e_x1, hf⟩ := hf
  refine ax_getI fl_90 rfl dPa_accepts_1 e_x1 ?_
  refine ax_iconst (-1 : Int32) dPa_accepts_4 k32_m1 ?_
  replace hf := ite_c hf
  rcases hf with ⟨hc, hf⟩ | ⟨hc, hf⟩
  · refine ax_icmp_eqT 17 dPa_accepts_5 (by decide) hc ?_
    refine ax_iload_n (i := 1) dPa_accepts_17 rfl rfl ?_
    replace hf := ite_c hf
    rcases hf with ⟨hc, hf⟩ | ⟨hn0, hf⟩
    · refine ax_lsw 99 dPa_accepts_18 (by decide) (by rw [hc]) (by decide) ?_
      refine ax_aload_n (i := 0) (some o) dPa_accepts_99 rfl rfl ?_
      refine ax_iconst (1 : Int32) dPa_accepts_100 k32_1 ?_
      replace hf := bd1_s hf
      obtain ⟨h14, e_h14, hf⟩ := hf
      refine ax_putI fw_90 rfl rfl dPa_accepts_101 e_h14 ?_
      refine ax_iconst (1 : Int32) dPa_accepts_104 k32_1 ?_
      cases hf
      exact Hr (Or.inr rfl) _ _ dPa_accepts_105
    replace hf := ite_c hf
    rcases hf with ⟨hc, hf⟩ | ⟨hn1, hf⟩
    · refine ax_lsw 115 dPa_accepts_18 (by decide) (by rw [hc]) (by decide) ?_
      refine ax_aload_n (i := 0) (some o) dPa_accepts_115 rfl rfl ?_
      refine ax_iload_n (i := 1) dPa_accepts_116 rfl rfl ?_
      replace hf := bd2_s hf
      obtain ⟨x12, h13, e_x12, hf⟩ := hf
      obtain ⟨k_e_x12, e_x12⟩ := cv_s e_x12
      refine ax_callV (As := [.int p1]) (rest := []) (c_Pa_opens e_x12) ml_405 cm_Pa_opens rfl k_e_x12 (Nat.le_trans (Nat.le_of_ble_eq_true rfl) hR1) (Nat.le_trans (Nat.le_of_ble_eq_true rfl) hR2) rfl rfl (Nat.le_of_ble_eq_true rfl) dPa_accepts_117 ?_
      replace hf := ite_s hf
      obtain ⟨e_z, hf⟩ := hf
      cases hf
      exact Hr e_z _ _ dPa_accepts_120
    replace hf := ite_c hf
    rcases hf with ⟨hc, hf⟩ | ⟨hn2, hf⟩
    · refine ax_lsw 126 dPa_accepts_18 (by decide) (by rw [hc]) (by decide) ?_
      refine ax_aload_n (i := 0) (some o) dPa_accepts_126 rfl rfl ?_
      refine ax_iload_n (i := 1) dPa_accepts_127 rfl rfl ?_
      replace hf := bd2_s hf
      obtain ⟨x10, h11, e_x10, hf⟩ := hf
      obtain ⟨k_e_x10, e_x10⟩ := cv_s e_x10
      refine ax_callV (As := [.int p1]) (rest := []) (c_Pa_closes e_x10) ml_421 cm_Pa_closes rfl k_e_x10 (Nat.le_trans (Nat.le_of_ble_eq_true rfl) hR1) (Nat.le_trans (Nat.le_of_ble_eq_true rfl) hR2) rfl rfl (Nat.le_of_ble_eq_true rfl) dPa_accepts_128 ?_
      replace hf := ite_s hf
      obtain ⟨e_z, hf⟩ := hf
      cases hf
      exact Hr e_z _ _ dPa_accepts_131
    replace hf := ite_c hf
    rcases hf with ⟨hc, hf⟩ | ⟨hn3, hf⟩
    · refine ax_lsw 106 dPa_accepts_18 (by decide) (by rw [hc]) (by decide) ?_
      refine ax_aload_n (i := 0) (some o) dPa_accepts_106 rfl rfl ?_
      refine ax_lconst (0 : Int64) dPa_accepts_107 kl_0 ?_
      refine ax_lconst (0 : Int64) dPa_accepts_108 kl_0 ?_
      refine ax_iconst (1 : Int32) dPa_accepts_109 k32_1 ?_
      replace hf := bd1_s hf
      obtain ⟨h9, e_h9, hf⟩ := hf
      obtain ⟨k_e_h9, e_h9⟩ := cv_s e_h9
      refine ax_callV (As := [.long (0 : Int64), .long (0 : Int64), .int (1 : Int32)]) (rest := []) (c_Pa_append e_h9) ml_397 cm_Pa_append rfl k_e_h9 (Nat.le_trans (Nat.le_of_ble_eq_true rfl) hR1) (Nat.le_trans (Nat.le_of_ble_eq_true rfl) hR2) rfl rfl (Nat.le_of_ble_eq_true rfl) dPa_accepts_110 ?_
      refine ax_iconst (1 : Int32) dPa_accepts_113 k32_1 ?_
      cases hf
      exact Hr (Or.inr rfl) _ _ dPa_accepts_114
    replace hf := ite_c hf
    rcases hf with ⟨hc, hf⟩ | ⟨hn4, hf⟩
    · refine ax_lsw 92 dPa_accepts_18 (by decide) (by rw [hc]) (by decide) ?_
      refine ax_aload_n (i := 0) (some o) dPa_accepts_92 rfl rfl ?_
      refine ax_iconst (0 : Int32) dPa_accepts_93 k32_0 ?_
      replace hf := bd1_s hf
      obtain ⟨h8, e_h8, hf⟩ := hf
      refine ax_putI fw_90 rfl rfl dPa_accepts_94 e_h8 ?_
      refine ax_iconst (1 : Int32) dPa_accepts_97 k32_1 ?_
      cases hf
      exact Hr (Or.inr rfl) _ _ dPa_accepts_98
    replace hf := ite_c hf
    rcases hf with ⟨hc, hf⟩ | ⟨hn5, hf⟩
    · refine ax_lsw 115 dPa_accepts_18 (by decide) (by rw [hc]) (by decide) ?_
      refine ax_aload_n (i := 0) (some o) dPa_accepts_115 rfl rfl ?_
      refine ax_iload_n (i := 1) dPa_accepts_116 rfl rfl ?_
      replace hf := bd2_s hf
      obtain ⟨x6, h7, e_x6, hf⟩ := hf
      obtain ⟨k_e_x6, e_x6⟩ := cv_s e_x6
      refine ax_callV (As := [.int p1]) (rest := []) (c_Pa_opens e_x6) ml_405 cm_Pa_opens rfl k_e_x6 (Nat.le_trans (Nat.le_of_ble_eq_true rfl) hR1) (Nat.le_trans (Nat.le_of_ble_eq_true rfl) hR2) rfl rfl (Nat.le_of_ble_eq_true rfl) dPa_accepts_117 ?_
      replace hf := ite_s hf
      obtain ⟨e_z, hf⟩ := hf
      cases hf
      exact Hr e_z _ _ dPa_accepts_120
    replace hf := ite_c hf
    rcases hf with ⟨hc, hf⟩ | ⟨hn6, hf⟩
    · refine ax_lsw 121 dPa_accepts_18 (by decide) (by rw [hc]) (by decide) ?_
      refine ax_aload_n (i := 0) (some o) dPa_accepts_121 rfl rfl ?_
      replace hf := bd2_s hf
      obtain ⟨x4, h5, e_x4, hf⟩ := hf
      obtain ⟨k_e_x4, e_x4⟩ := cv_s e_x4
      refine ax_callV (As := []) (rest := []) (c_Pa_bars e_x4) ml_409 cm_Pa_bars rfl k_e_x4 (Nat.le_trans (Nat.le_of_ble_eq_true rfl) hR1) (Nat.le_trans (Nat.le_of_ble_eq_true rfl) hR2) rfl rfl (Nat.le_of_ble_eq_true rfl) dPa_accepts_122 ?_
      replace hf := ite_s hf
      obtain ⟨e_z, hf⟩ := hf
      cases hf
      exact Hr e_z _ _ dPa_accepts_125
    replace hf := ite_c hf
    rcases hf with ⟨hc, hf⟩ | ⟨hn7, hf⟩
    · refine ax_lsw 126 dPa_accepts_18 (by decide) (by rw [hc]) (by decide) ?_
      refine ax_aload_n (i := 0) (some o) dPa_accepts_126 rfl rfl ?_
      refine ax_iload_n (i := 1) dPa_accepts_127 rfl rfl ?_
      replace hf := bd2_s hf
      obtain ⟨x2, h3, e_x2, hf⟩ := hf
      obtain ⟨k_e_x2, e_x2⟩ := cv_s e_x2
      refine ax_callV (As := [.int p1]) (rest := []) (c_Pa_closes e_x2) ml_421 cm_Pa_closes rfl k_e_x2 (Nat.le_trans (Nat.le_of_ble_eq_true rfl) hR1) (Nat.le_trans (Nat.le_of_ble_eq_true rfl) hR2) rfl rfl (Nat.le_of_ble_eq_true rfl) dPa_accepts_128 ?_
      replace hf := ite_s hf
      obtain ⟨e_z, hf⟩ := hf
      cases hf
      exact Hr e_z _ _ dPa_accepts_131
    refine ax_lsw (off := 114) 132 dPa_accepts_18 (by decide) (show Op.lookupswitch.offset [(33, 81), (40, 97), (41, 108), (48, 88), (63, 74), (123, 97), (124, 103), (125, 108)] (114) _ = (114) from ((lsn (c := (33 : Int32)) (by decide) hn0).trans ((lsn (c := (40 : Int32)) (by decide) hn1).trans ((lsn (c := (41 : Int32)) (by decide) hn2).trans ((lsn (c := (48 : Int32)) (by decide) hn3).trans ((lsn (c := (63 : Int32)) (by decide) hn4).trans ((lsn (c := (123 : Int32)) (by decide) hn5).trans ((lsn (c := (124 : Int32)) (by decide) hn6).trans ((lsn (c := (125 : Int32)) (by decide) hn7).trans rfl))))))))) (by decide) ?_
    refine ax_iconst (0 : Int32) dPa_accepts_132 k32_0 ?_
    cases hf
    exact Hr (Or.inl rfl) _ _ dPa_accepts_133
  · refine ax_icmp_eqF 17 dPa_accepts_5 (by decide) hc ?_
    refine ax_aload_n (i := 0) (some o) dPa_accepts_8 rfl rfl ?_
    refine ax_iload_n (i := 1) dPa_accepts_9 rfl rfl ?_
    refine ax_bipush (97 : Int32) dPa_accepts_10 k8_97 ?_
    refine ax_isub dPa_accepts_12 ?_
    replace hf := bd2_s hf
    obtain ⟨x15, h16, e_x15, hf⟩ := hf
    obtain ⟨k_e_x15, e_x15⟩ := cv_s e_x15
    refine ax_callV (As := [.int (p1 - (97 : Int32))]) (rest := []) (c_Pa_acceptsMessage e_x15) ml_390 cm_Pa_acceptsMessage rfl k_e_x15 (Nat.le_trans (Nat.le_of_ble_eq_true rfl) hR1) (Nat.le_trans (Nat.le_of_ble_eq_true rfl) hR2) rfl rfl (Nat.le_of_ble_eq_true rfl) dPa_accepts_13 ?_
    replace hf := ite_s hf
    obtain ⟨e_z, hf⟩ := hf
    cases hf
    exact Hr e_z _ _ dPa_accepts_16
theorem c_Pa_accepts {l : Launch} {E : EN} {h0 : AH} {o : Nat} {p1 : Int32} {r : Int32} {hF : AH} (hf : f_Pa_accepts h0 o p1 = some (r, hF)) : AM l E 4 mi_Pa_accepts [va_rf (some o), .int p1] h0 (some (.int r)) hF :=
  am_of2 [(va_rf (some o), false), (.int p1, false)] 0 ⟨cat_rf _, rfl, trivial⟩ rfl rfl (v_Pa_accepts (Nat.le_refl _) (Nat.le_refl _) (fun hz pc L hd => ax_zret rfl hz hd rfl) hf)
theorem w_Pa_read_L27 {l : Launch} {E : EN} {R : Room} {B : (Nat × Nat) × (Nat × Nat)} {Qf : QF} {r : Int32} {hF : AH} (hR1 : 5 ≤ R.frames) (hR2 : 320 ≤ R.locals) (Hr : ∀ (pc : Nat) (L : List (Option Value)), decode mi_Pa_read.2.1 pc = .ok (.ireturn, 1) → AW l E mi_Pa_read R B Qf pc L [.int r] hF) {y0 : Nat} : ∀ (n : Nat) (z1 : Int32) (h : AH), f_Pa_read_L27 y0 n z1 h = some (r, hF) → AW l E mi_Pa_read R B Qf 27 [some (va_rf (some y0)), some (.int z1)] [] h := by
  intro n
  induction n with
  | zero => intro z1 h hf; cases hf
  | succ n ih =>
    intro z1 h hf
    rw [f_Pa_read_L27] at hf
    refine ax_iload_n (i := 1) dPa_read_27 rfl rfl ?_
    refine ax_aload_n (i := 0) (some y0) dPa_read_28 rfl rfl ?_
    replace hf := bd1_s hf
    obtain ⟨x9, e_x9, hf⟩ := hf
    refine ax_getI fl_81 rfl dPa_read_29 e_x9 ?_
    replace hf := ite_c hf
    rcases hf with ⟨hc, hf⟩ | ⟨hc, hf⟩
    · refine ax_icmp_geF 56 dPa_read_32 (by decide) hc ?_
      refine ax_aload_n (i := 0) (some y0) dPa_read_35 rfl rfl ?_
      refine ax_aload_n (i := 0) (some y0) dPa_read_36 rfl rfl ?_
      replace hf := bd1_s hf
      obtain ⟨r11, e_r11, hf⟩ := hf
      refine ax_getR fl_78 rfl dPa_read_37 e_r11 ?_
      refine ax_iload_n (i := 1) dPa_read_40 rfl rfl ?_
      replace hf := bd1_s hf
      obtain ⟨a12, e_d, hf⟩ := hf
      subst e_d
      replace hf := bd1_s hf
      obtain ⟨x13, e_x13, hf⟩ := hf
      refine ax_iald dPa_read_41 e_x13 ?_
      replace hf := bd2_s hf
      obtain ⟨x14, h15, e_x14, hf⟩ := hf
      obtain ⟨k_e_x14, e_x14⟩ := cv_s e_x14
      refine ax_callV (As := [.int x13]) (rest := []) (c_Pa_accepts e_x14) ml_386 cm_Pa_accepts rfl k_e_x14 (Nat.le_trans (Nat.le_of_ble_eq_true rfl) hR1) (Nat.le_trans (Nat.le_of_ble_eq_true rfl) hR2) rfl rfl (Nat.le_of_ble_eq_true rfl) dPa_read_42 ?_
      replace hf := ite_c hf
      rcases hf with ⟨hc, hf⟩ | ⟨hc, hf⟩
      · refine ax_if_neF 50 dPa_read_45 (by decide) hc ?_
        refine ax_iload_n (i := 1) dPa_read_48 rfl rfl ?_
        cases hf
        exact Hr _ _ dPa_read_49
      · refine ax_if_neT 50 dPa_read_45 (by decide) hc ?_
        refine ax_iinc (i := 1) (z1 + (1 : Int32)) [some (va_rf (some y0)), some (.int (z1 + (1 : Int32)))] dPa_read_50 rfl (iic k32_1) (Or.inr (c1r rfl)) rfl ?_
        refine ax_goto 27 dPa_read_53 (by decide) ?_
        exact ih (z1 + (1 : Int32)) h15 hf
    · refine ax_icmp_geT 56 dPa_read_32 (by decide) hc ?_
      refine ax_aload_n (i := 0) (some y0) dPa_read_56 rfl rfl ?_
      replace hf := bd1_s hf
      obtain ⟨x10, e_x10, hf⟩ := hf
      refine ax_getI fl_81 rfl dPa_read_57 e_x10 ?_
      cases hf
      exact Hr _ _ dPa_read_60
theorem v_Pa_read {l : Launch} {E : EN} {R : Room} {B : (Nat × Nat) × (Nat × Nat)} {Qf : QF} {h0 : AH} {o : Nat} {r : Int32} {hF : AH} (hR1 : 5 ≤ R.frames) (hR2 : 320 ≤ R.locals) (Hr : ∀ (pc : Nat) (L : List (Option Value)), decode mi_Pa_read.2.1 pc = .ok (.ireturn, 1) → AW l E mi_Pa_read R B Qf pc L [.int r] hF) (hf : f_Pa_read h0 o = some (r, hF)) : AW l E mi_Pa_read R B Qf 0 [some (va_rf (some o)), none] [] h0 := by
  unfold f_Pa_read at hf
  refine ax_aload_n (i := 0) (some o) dPa_read_0 rfl rfl ?_
  refine ax_iconst (0 : Int32) dPa_read_1 k32_0 ?_
  replace hf := bd1_s hf
  obtain ⟨h1, e_h1, hf⟩ := hf
  refine ax_putI fw_83 rfl rfl dPa_read_2 e_h1 ?_
  refine ax_aload_n (i := 0) (some o) dPa_read_5 rfl rfl ?_
  refine ax_iconst (0 : Int32) dPa_read_6 k32_0 ?_
  replace hf := bd1_s hf
  obtain ⟨h2, e_h2, hf⟩ := hf
  refine ax_putI fw_85 rfl rfl dPa_read_7 e_h2 ?_
  refine ax_aload_n (i := 0) (some o) dPa_read_10 rfl rfl ?_
  refine ax_iconst (-1 : Int32) dPa_read_11 k32_m1 ?_
  replace hf := bd1_s hf
  obtain ⟨h3, e_h3, hf⟩ := hf
  refine ax_putI fw_90 rfl rfl dPa_read_12 e_h3 ?_
  refine ax_aload_n (i := 0) (some o) dPa_read_15 rfl rfl ?_
  replace hf := bd1_s hf
  obtain ⟨r4, e_r4, hf⟩ := hf
  refine ax_getR fl_82 rfl dPa_read_16 e_r4 ?_
  refine ax_iconst (0 : Int32) dPa_read_19 k32_0 ?_
  replace hf := bd1_s hf
  obtain ⟨a5, e_d, hf⟩ := hf
  subst e_d
  replace hf := bd1_s hf
  obtain ⟨r6, e_r6, hf⟩ := hf
  refine ax_aald (c := 5) (by decide) rfl rfl dPa_read_20 e_r6 ?_
  refine ax_iconst (0 : Int32) dPa_read_21 k32_0 ?_
  replace hf := bd1_s hf
  obtain ⟨a7, e_d, hf⟩ := hf
  subst e_d
  replace hf := bd1_s hf
  obtain ⟨h8, e_h8, hf⟩ := hf
  obtain ⟨k_e_h8, e_h8⟩ := cv_s e_h8
  refine ax_callV (As := [.int (0 : Int32)]) (rest := []) (c_Le_open e_h8) ml_378 cm_Le_open rfl k_e_h8 (Nat.le_trans (Nat.le_of_ble_eq_true rfl) hR1) (Nat.le_trans (Nat.le_of_ble_eq_true rfl) hR2) rfl rfl (Nat.le_of_ble_eq_true rfl) dPa_read_22 ?_
  refine ax_iconst (0 : Int32) dPa_read_25 k32_0 ?_
  refine ax_istore_n (i := 1) [some (va_rf (some o)), some (.int (0 : Int32))] dPa_read_26 rfl (Nat.le_of_ble_eq_true rfl) (Or.inr (c1r rfl)) rfl ?_
  refine w_Pa_read_L27 hR1 hR2 Hr FU (0 : Int32) h8 hf
theorem c_Pa_read {l : Launch} {E : EN} {h0 : AH} {o : Nat} {r : Int32} {hF : AH} (hf : f_Pa_read h0 o = some (r, hF)) : AM l E 5 mi_Pa_read [va_rf (some o)] h0 (some (.int r)) hF :=
  am_of2 [(va_rf (some o), false)] 1 ⟨cat_rf _, trivial⟩ rfl rfl (v_Pa_read (Nat.le_refl _) (Nat.le_refl _) (fun pc L hd => ax_iret rfl hd rfl) hf)
theorem v_C_good {l : Launch} {E : EN} {R : Room} {B : (Nat × Nat) × (Nat × Nat)} {Qf : QF} {h0 : AH} {o : Nat} {r : Int32} {hF : AH} (hR1 : 6 ≤ R.frames) (hR2 : 384 ≤ R.locals) (Hr : ∀ (pc : Nat) (L : List (Option Value)), decode mi_C_good.2.1 pc = .ok (.ireturn, 1) → AW l E mi_C_good R B Qf pc L [.int r] hF) (hf : f_C_good h0 o = some (r, hF)) : AW l E mi_C_good R B Qf 0 [some (va_rf (some o))] [] h0 := by
  unfold f_C_good at hf
  refine ax_aload_n (i := 0) (some o) dC_good_0 rfl rfl ?_
  replace hf := bd1_s hf
  obtain ⟨r1, e_r1, hf⟩ := hf
  refine ax_getR fl_321 rfl dC_good_1 e_r1 ?_
  replace hf := bd1_s hf
  obtain ⟨a2, e_d, hf⟩ := hf
  subst e_d
  replace hf := bd2_s hf
  obtain ⟨x3, h4, e_x3, hf⟩ := hf
  obtain ⟨k_e_x3, e_x3⟩ := cv_s e_x3
  refine ax_callV (As := []) (rest := []) (c_Pa_read e_x3) ml_374 cm_Pa_read rfl k_e_x3 (Nat.le_trans (Nat.le_of_ble_eq_true rfl) hR1) (Nat.le_trans (Nat.le_of_ble_eq_true rfl) hR2) rfl rfl (Nat.le_of_ble_eq_true rfl) dC_good_4 ?_
  cases hf
  exact Hr _ _ dC_good_7
theorem c_C_good {l : Launch} {E : EN} {h0 : AH} {o : Nat} {r : Int32} {hF : AH} (hf : f_C_good h0 o = some (r, hF)) : AM l E 6 mi_C_good [va_rf (some o)] h0 (some (.int r)) hF :=
  am_of2 [(va_rf (some o), false)] 0 ⟨cat_rf _, trivial⟩ rfl rfl (v_C_good (Nat.le_refl _) (Nat.le_refl _) (fun pc L hd => ax_iret rfl hd rfl) hf)
theorem v_Pa_isWhole {l : Launch} {E : EN} {R : Room} {B : (Nat × Nat) × (Nat × Nat)} {Qf : QF} {h0 : AH} {o : Nat} {r : Int32} (hR1 : 1 ≤ R.frames) (hR2 : 64 ≤ R.locals) (Hr : (r = 0 ∨ r = 1) → ∀ (pc : Nat) (L : List (Option Value)), decode mi_Pa_isWhole.2.1 pc = .ok (.ireturn, 1) → AW l E mi_Pa_isWhole R B Qf pc L [.int r] h0) (hf : f_Pa_isWhole h0 o = some r) : AW l E mi_Pa_isWhole R B Qf 0 [some (va_rf (some o))] [] h0 := by
  unfold f_Pa_isWhole at hf
  refine ax_aload_n (i := 0) (some o) dPa_isWhole_0 rfl rfl ?_
  replace hf := bd1_s hf
  obtain ⟨x1, e_x1, hf⟩ := hf
  refine ax_getI fl_90 rfl dPa_isWhole_1 e_x1 ?_
  refine ax_iconst (-1 : Int32) dPa_isWhole_4 k32_m1 ?_
  replace hf := ite_c hf
  rcases hf with ⟨hc, hf⟩ | ⟨hc, hf⟩
  · refine ax_icmp_neF 31 dPa_isWhole_5 (by decide) hc ?_
    refine ax_aload_n (i := 0) (some o) dPa_isWhole_8 rfl rfl ?_
    replace hf := bd1_s hf
    obtain ⟨x2, e_x2, hf⟩ := hf
    refine ax_getI fl_83 rfl dPa_isWhole_9 e_x2 ?_
    replace hf := ite_c hf
    rcases hf with ⟨hc, hf⟩ | ⟨hc, hf⟩
    · refine ax_if_neF 31 dPa_isWhole_12 (by decide) hc ?_
      refine ax_aload_n (i := 0) (some o) dPa_isWhole_15 rfl rfl ?_
      replace hf := bd1_s hf
      obtain ⟨r3, e_r3, hf⟩ := hf
      refine ax_getR fl_82 rfl dPa_isWhole_16 e_r3 ?_
      refine ax_iconst (0 : Int32) dPa_isWhole_19 k32_0 ?_
      replace hf := bd1_s hf
      obtain ⟨a4, e_d, hf⟩ := hf
      subst e_d
      replace hf := bd1_s hf
      obtain ⟨r5, e_r5, hf⟩ := hf
      refine ax_aald (c := 5) (by decide) rfl rfl dPa_isWhole_20 e_r5 ?_
      replace hf := bd1_s hf
      obtain ⟨a6, e_d, hf⟩ := hf
      subst e_d
      replace hf := bd1_s hf
      obtain ⟨x7, e_x7, hf⟩ := hf
      refine ax_getI fl_44 rfl dPa_isWhole_21 e_x7 ?_
      replace hf := ite_c hf
      rcases hf with ⟨hc, hf⟩ | ⟨hc, hf⟩
      · refine ax_if_eqT 31 dPa_isWhole_24 (by decide) hc ?_
        refine ax_iconst (0 : Int32) dPa_isWhole_31 k32_0 ?_
        cases hf
        exact Hr (Or.inl rfl) _ _ dPa_isWhole_32
      · refine ax_if_eqF 31 dPa_isWhole_24 (by decide) hc ?_
        refine ax_iconst (1 : Int32) dPa_isWhole_27 k32_1 ?_
        refine ax_goto 32 dPa_isWhole_28 (by decide) ?_
        cases hf
        exact Hr (Or.inr rfl) _ _ dPa_isWhole_32
    · refine ax_if_neT 31 dPa_isWhole_12 (by decide) hc ?_
      refine ax_iconst (0 : Int32) dPa_isWhole_31 k32_0 ?_
      cases hf
      exact Hr (Or.inl rfl) _ _ dPa_isWhole_32
  · refine ax_icmp_neT 31 dPa_isWhole_5 (by decide) hc ?_
    refine ax_iconst (0 : Int32) dPa_isWhole_31 k32_0 ?_
    cases hf
    exact Hr (Or.inl rfl) _ _ dPa_isWhole_32
theorem c_Pa_isWhole {l : Launch} {E : EN} {h0 : AH} {o : Nat} {r : Int32} (hf : f_Pa_isWhole h0 o = some r) : AM l E 1 mi_Pa_isWhole [va_rf (some o)] h0 (some (.int r)) h0 :=
  am_of2 [(va_rf (some o), false)] 0 ⟨cat_rf _, trivial⟩ rfl rfl (v_Pa_isWhole (Nat.le_refl _) (Nat.le_refl _) (fun hz pc L hd => ax_zret rfl hz hd rfl) hf)
theorem v_Pa_nextSteps {l : Launch} {E : EN} {R : Room} {B : (Nat × Nat) × (Nat × Nat)} {Qf : QF} {h0 : AH} {o : Nat} {p1 : Int32} {r : Int64} (hR1 : 1 ≤ R.frames) (hR2 : 64 ≤ R.locals) (Hr : ∀ (pc : Nat) (L : List (Option Value)), decode mi_Pa_nextSteps.2.1 pc = .ok (.lreturn, 1) → AW l E mi_Pa_nextSteps R B Qf pc L [.long r] h0) (hf : f_Pa_nextSteps h0 o p1 = some r) : AW l E mi_Pa_nextSteps R B Qf 0 [some (va_rf (some o)), some (.int p1)] [] h0 := by
  unfold f_Pa_nextSteps at hf
  refine ax_iload_n (i := 1) dPa_nextSteps_0 rfl rfl ?_
  replace hf := ite_c hf
  rcases hf with ⟨hc, hf⟩ | ⟨hc, hf⟩
  · refine ax_if_neF 16 dPa_nextSteps_1 (by decide) hc ?_
    refine ax_aload_n (i := 0) (some o) dPa_nextSteps_4 rfl rfl ?_
    replace hf := bd1_s hf
    obtain ⟨r4, e_r4, hf⟩ := hf
    refine ax_getR fl_82 rfl dPa_nextSteps_5 e_r4 ?_
    refine ax_iconst (0 : Int32) dPa_nextSteps_8 k32_0 ?_
    replace hf := bd1_s hf
    obtain ⟨a5, e_d, hf⟩ := hf
    subst e_d
    replace hf := bd1_s hf
    obtain ⟨r6, e_r6, hf⟩ := hf
    refine ax_aald (c := 5) (by decide) rfl rfl dPa_nextSteps_9 e_r6 ?_
    replace hf := bd1_s hf
    obtain ⟨a7, e_d, hf⟩ := hf
    subst e_d
    replace hf := bd1_s hf
    obtain ⟨x8, e_x8, hf⟩ := hf
    refine ax_getJ fl_46 rfl dPa_nextSteps_10 e_x8 ?_
    refine ax_goto 22 dPa_nextSteps_13 (by decide) ?_
    cases hf
    exact Hr _ _ dPa_nextSteps_22
  · refine ax_if_neT 16 dPa_nextSteps_1 (by decide) hc ?_
    refine ax_aload_n (i := 0) (some o) dPa_nextSteps_16 rfl rfl ?_
    replace hf := bd1_s hf
    obtain ⟨r1, e_r1, hf⟩ := hf
    refine ax_getR fl_89 rfl dPa_nextSteps_17 e_r1 ?_
    refine ax_iload_n (i := 1) dPa_nextSteps_20 rfl rfl ?_
    replace hf := bd1_s hf
    obtain ⟨a2, e_d, hf⟩ := hf
    subst e_d
    replace hf := bd1_s hf
    obtain ⟨x3, e_x3, hf⟩ := hf
    refine ax_lald dPa_nextSteps_21 e_x3 ?_
    cases hf
    exact Hr _ _ dPa_nextSteps_22
theorem c_Pa_nextSteps {l : Launch} {E : EN} {h0 : AH} {o : Nat} {p1 : Int32} {r : Int64} (hf : f_Pa_nextSteps h0 o p1 = some r) : AM l E 1 mi_Pa_nextSteps [va_rf (some o), .int p1] h0 (some (.long r)) h0 :=
  am_of2 [(va_rf (some o), false), (.int p1, false)] 0 ⟨cat_rf _, rfl, trivial⟩ rfl rfl (v_Pa_nextSteps (Nat.le_refl _) (Nat.le_refl _) (fun pc L hd => ax_lret rfl hd rfl) hf)
theorem v_C_hasBit {l : Launch} {E : EN} {R : Room} {B : (Nat × Nat) × (Nat × Nat)} {Qf : QF} {h0 : AH} {p1 : Int32} {p2 : Int32} {r : Int32} (hR1 : 1 ≤ R.frames) (hR2 : 64 ≤ R.locals) (Hr : (r = 0 ∨ r = 1) → ∀ (pc : Nat) (L : List (Option Value)), decode mi_C_hasBit.2.1 pc = .ok (.ireturn, 1) → AW l E mi_C_hasBit R B Qf pc L [.int r] h0) (hf : f_C_hasBit h0 p1 p2 = some r) : AW l E mi_C_hasBit R B Qf 0 [some (.int p1), some (.int p2)] [] h0 := by
  unfold f_C_hasBit at hf
  refine ax_iload_n (i := 0) dC_hasBit_0 rfl rfl ?_
  refine ax_iload_n (i := 1) dC_hasBit_1 rfl rfl ?_
  refine ax_ishr dC_hasBit_2 ?_
  refine ax_iconst (1 : Int32) dC_hasBit_3 k32_1 ?_
  refine ax_iand dC_hasBit_4 ?_
  replace hf := ite_c hf
  rcases hf with ⟨hc, hf⟩ | ⟨hc, hf⟩
  · refine ax_if_eqT 12 dC_hasBit_5 (by decide) hc ?_
    refine ax_iconst (0 : Int32) dC_hasBit_12 k32_0 ?_
    cases hf
    exact Hr (Or.inl rfl) _ _ dC_hasBit_13
  · refine ax_if_eqF 12 dC_hasBit_5 (by decide) hc ?_
    refine ax_iconst (1 : Int32) dC_hasBit_8 k32_1 ?_
    refine ax_goto 13 dC_hasBit_9 (by decide) ?_
    cases hf
    exact Hr (Or.inr rfl) _ _ dC_hasBit_13
theorem c_C_hasBit {l : Launch} {E : EN} {h0 : AH} {p1 : Int32} {p2 : Int32} {r : Int32} (hf : f_C_hasBit h0 p1 p2 = some r) : AM l E 1 mi_C_hasBit [.int p1, .int p2] h0 (some (.int r)) h0 :=
  am_of2 [(.int p1, false), (.int p2, false)] 0 ⟨rfl, rfl, trivial⟩ rfl rfl (v_C_hasBit (Nat.le_refl _) (Nat.le_refl _) (fun hz pc L hd => ax_zret rfl hz hd rfl) hf)
theorem w_Pa_isTwofold_L14 {l : Launch} {E : EN} {R : Room} {B : (Nat × Nat) × (Nat × Nat)} {Qf : QF} {h0 : AH} {r : Int32} (hR1 : 2 ≤ R.frames) (hR2 : 128 ≤ R.locals) (Hr : (r = 0 ∨ r = 1) → ∀ (pc : Nat) (L : List (Option Value)), decode mi_Pa_isTwofold.2.1 pc = .ok (.ireturn, 1) → AW l E mi_Pa_isTwofold R B Qf pc L [.int r] h0) {y0 : Nat} {y1 : Int32} {k : Option (Int32)} (hk : k  = some r → AW l E mi_Pa_isTwofold R B Qf 68 [some (va_rf (some y0)), some (.int y1), none, none] [] h0) : ∀ (n : Nat) (z2 : Int32) (z3 : Int32), f_Pa_isTwofold_L14 h0 y0 y1 k n z2 z3 = some r → AW l E mi_Pa_isTwofold R B Qf 14 [some (va_rf (some y0)), some (.int y1), some (.int z2), some (.int z3)] [] h0 := by
  intro n
  induction n with
  | zero => intro z2 z3 hf; cases hf
  | succ n ih =>
    intro z2 z3 hf
    rw [f_Pa_isTwofold_L14] at hf
    refine ax_iload_n (i := 3) dPa_isTwofold_14 rfl rfl ?_
    refine ax_aload_n (i := 0) (some y0) dPa_isTwofold_15 rfl rfl ?_
    replace hf := bd1_s hf
    obtain ⟨x2, e_x2, hf⟩ := hf
    refine ax_getI fl_85 rfl dPa_isTwofold_16 e_x2 ?_
    replace hf := ite_c hf
    rcases hf with ⟨hc, hf⟩ | ⟨hc, hf⟩
    · refine ax_icmp_gtT 68 dPa_isTwofold_19 (by decide) hc ?_
      refine ax_mask [true, true, false, false] rfl [some (va_rf (some y0)), some (.int y1), none, none] rfl ?_
      exact hk  hf
    · refine ax_icmp_gtF 68 dPa_isTwofold_19 (by decide) hc ?_
      refine ax_aload_n (i := 0) (some y0) dPa_isTwofold_22 rfl rfl ?_
      refine ax_iload_n (i := 1) dPa_isTwofold_23 rfl rfl ?_
      replace hf := bd1_s hf
      obtain ⟨x3, e_x3, hf⟩ := hf
      obtain ⟨k_e_x3, e_x3⟩ := cv_s e_x3
      refine ax_callV (As := [.int y1]) (rest := []) (c_Pa_nextSteps e_x3) ml_441 cm_Pa_nextSteps rfl k_e_x3 (Nat.le_trans (Nat.le_of_ble_eq_true rfl) hR1) (Nat.le_trans (Nat.le_of_ble_eq_true rfl) hR2) rfl rfl (Nat.le_of_ble_eq_true rfl) dPa_isTwofold_24 ?_
      refine ax_iload_n (i := 3) dPa_isTwofold_27 rfl rfl ?_
      refine ax_lshr dPa_isTwofold_28 ?_
      refine ax_lconst (1 : Int64) dPa_isTwofold_29 kl_1 ?_
      refine ax_land dPa_isTwofold_30 ?_
      refine ax_lconst (0 : Int64) dPa_isTwofold_31 kl_0 ?_
      refine ax_lcmp dPa_isTwofold_32 ?_
      replace hf := ite_c hf
      rcases hf with ⟨hc, hf⟩ | ⟨hc, hf⟩
      · refine ax_if_eqT 62 dPa_isTwofold_33 (by decide) hc ?_
        refine ax_iinc (i := 3) (z3 + (1 : Int32)) [some (va_rf (some y0)), some (.int y1), some (.int z2), some (.int (z3 + (1 : Int32)))] dPa_isTwofold_62 rfl (iic k32_1) (Or.inr (c1i rfl)) rfl ?_
        refine ax_goto 14 dPa_isTwofold_65 (by decide) ?_
        exact ih z2 (z3 + (1 : Int32)) hf
      · refine ax_if_eqF 62 dPa_isTwofold_33 (by decide) hc ?_
        refine ax_iload_n (i := 2) dPa_isTwofold_36 rfl rfl ?_
        refine ax_aload_n (i := 0) (some y0) dPa_isTwofold_37 rfl rfl ?_
        replace hf := bd1_s hf
        obtain ⟨r4, e_r4, hf⟩ := hf
        refine ax_getR fl_87 rfl dPa_isTwofold_38 e_r4 ?_
        refine ax_iload_n (i := 3) dPa_isTwofold_41 rfl rfl ?_
        replace hf := bd1_s hf
        obtain ⟨a5, e_d, hf⟩ := hf
        subst e_d
        replace hf := bd1_s hf
        obtain ⟨x6, e_x6, hf⟩ := hf
        refine ax_iald dPa_isTwofold_42 e_x6 ?_
        replace hf := bd1_s hf
        obtain ⟨x7, e_x7, hf⟩ := hf
        refine ax_callS (As := [.int z2, .int x6]) (rest := []) (c_C_hasBit e_x7) ml_445 cm_C_hasBit (Nat.le_trans (Nat.le_of_ble_eq_true rfl) hR1) (Nat.le_trans (Nat.le_of_ble_eq_true rfl) hR2) rfl rfl (Nat.le_of_ble_eq_true rfl) dPa_isTwofold_43 ?_
        replace hf := ite_c hf
        rcases hf with ⟨hc, hf⟩ | ⟨hc, hf⟩
        · refine ax_if_eqT 51 dPa_isTwofold_46 (by decide) hc ?_
          refine ax_iload_n (i := 2) dPa_isTwofold_51 rfl rfl ?_
          refine ax_iconst (1 : Int32) dPa_isTwofold_52 k32_1 ?_
          refine ax_aload_n (i := 0) (some y0) dPa_isTwofold_53 rfl rfl ?_
          replace hf := bd1_s hf
          obtain ⟨r8, e_r8, hf⟩ := hf
          refine ax_getR fl_87 rfl dPa_isTwofold_54 e_r8 ?_
          refine ax_iload_n (i := 3) dPa_isTwofold_57 rfl rfl ?_
          replace hf := bd1_s hf
          obtain ⟨a9, e_d, hf⟩ := hf
          subst e_d
          replace hf := bd1_s hf
          obtain ⟨x10, e_x10, hf⟩ := hf
          refine ax_iald dPa_isTwofold_58 e_x10 ?_
          refine ax_ishl dPa_isTwofold_59 ?_
          refine ax_ior dPa_isTwofold_60 ?_
          replace hf := bd1_s hf
          obtain ⟨x11, e_x11, hf⟩ := hf
          refine ax_nmI (Option.some.inj e_x11) ?_
          refine ax_istore_n (i := 2) [some (va_rf (some y0)), some (.int y1), some (.int x11), some (.int z3)] dPa_isTwofold_61 rfl (Nat.le_of_ble_eq_true rfl) (Or.inr (c1i rfl)) rfl ?_
          refine ax_iinc (i := 3) (z3 + (1 : Int32)) [some (va_rf (some y0)), some (.int y1), some (.int x11), some (.int (z3 + (1 : Int32)))] dPa_isTwofold_62 rfl (iic k32_1) (Or.inr (c1i rfl)) rfl ?_
          refine ax_goto 14 dPa_isTwofold_65 (by decide) ?_
          exact ih x11 (z3 + (1 : Int32)) hf
        · refine ax_if_eqF 51 dPa_isTwofold_46 (by decide) hc ?_
          refine ax_iconst (1 : Int32) dPa_isTwofold_49 k32_1 ?_
          cases hf
          exact Hr (Or.inr rfl) _ _ dPa_isTwofold_50
theorem w_Pa_isTwofold_L2 {l : Launch} {E : EN} {R : Room} {B : (Nat × Nat) × (Nat × Nat)} {Qf : QF} {h0 : AH} {r : Int32} (hR1 : 2 ≤ R.frames) (hR2 : 128 ≤ R.locals) (Hr : (r = 0 ∨ r = 1) → ∀ (pc : Nat) (L : List (Option Value)), decode mi_Pa_isTwofold.2.1 pc = .ok (.ireturn, 1) → AW l E mi_Pa_isTwofold R B Qf pc L [.int r] h0) {y0 : Nat} : ∀ (n : Nat) (z1 : Int32), f_Pa_isTwofold_L2 h0 y0 n z1 = some r → AW l E mi_Pa_isTwofold R B Qf 2 [some (va_rf (some y0)), some (.int z1), none, none] [] h0 := by
  intro n
  induction n with
  | zero => intro z1 hf; cases hf
  | succ n ih =>
    intro z1 hf
    rw [f_Pa_isTwofold_L2] at hf
    refine ax_iload_n (i := 1) dPa_isTwofold_2 rfl rfl ?_
    refine ax_aload_n (i := 0) (some y0) dPa_isTwofold_3 rfl rfl ?_
    replace hf := bd1_s hf
    obtain ⟨x1, e_x1, hf⟩ := hf
    refine ax_getI fl_85 rfl dPa_isTwofold_4 e_x1 ?_
    replace hf := ite_c hf
    rcases hf with ⟨hc, hf⟩ | ⟨hc, hf⟩
    · refine ax_icmp_gtT 74 dPa_isTwofold_7 (by decide) hc ?_
      refine ax_iconst (0 : Int32) dPa_isTwofold_74 k32_0 ?_
      cases hf
      exact Hr (Or.inl rfl) _ _ dPa_isTwofold_75
    · refine ax_icmp_gtF 74 dPa_isTwofold_7 (by decide) hc ?_
      refine ax_iconst (0 : Int32) dPa_isTwofold_10 k32_0 ?_
      refine ax_istore_n (i := 2) [some (va_rf (some y0)), some (.int z1), some (.int (0 : Int32)), none] dPa_isTwofold_11 rfl (Nat.le_of_ble_eq_true rfl) (Or.inr (c1i rfl)) rfl ?_
      refine ax_iconst (1 : Int32) dPa_isTwofold_12 k32_1 ?_
      refine ax_istore_n (i := 3) [some (va_rf (some y0)), some (.int z1), some (.int (0 : Int32)), some (.int (1 : Int32))] dPa_isTwofold_13 rfl (Nat.le_of_ble_eq_true rfl) (Or.inr (c1i rfl)) rfl ?_
      refine w_Pa_isTwofold_L14 hR1 hR2 Hr (fun hf => ?_) FU (0 : Int32) (1 : Int32) hf
      refine ax_iinc (i := 1) (z1 + (1 : Int32)) [some (va_rf (some y0)), some (.int (z1 + (1 : Int32))), none, none] dPa_isTwofold_68 rfl (iic k32_1) (Or.inr (c1r rfl)) rfl ?_
      refine ax_goto 2 dPa_isTwofold_71 (by decide) ?_
      exact ih (z1 + (1 : Int32)) hf
theorem v_Pa_isTwofold {l : Launch} {E : EN} {R : Room} {B : (Nat × Nat) × (Nat × Nat)} {Qf : QF} {h0 : AH} {o : Nat} {r : Int32} (hR1 : 2 ≤ R.frames) (hR2 : 128 ≤ R.locals) (Hr : (r = 0 ∨ r = 1) → ∀ (pc : Nat) (L : List (Option Value)), decode mi_Pa_isTwofold.2.1 pc = .ok (.ireturn, 1) → AW l E mi_Pa_isTwofold R B Qf pc L [.int r] h0) (hf : f_Pa_isTwofold h0 o = some r) : AW l E mi_Pa_isTwofold R B Qf 0 [some (va_rf (some o)), none, none, none] [] h0 := by
  unfold f_Pa_isTwofold at hf
  refine ax_iconst (0 : Int32) dPa_isTwofold_0 k32_0 ?_
  refine ax_istore_n (i := 1) [some (va_rf (some o)), some (.int (0 : Int32)), none, none] dPa_isTwofold_1 rfl (Nat.le_of_ble_eq_true rfl) (Or.inr (c1r rfl)) rfl ?_
  refine w_Pa_isTwofold_L2 hR1 hR2 Hr FU (0 : Int32) hf
theorem c_Pa_isTwofold {l : Launch} {E : EN} {h0 : AH} {o : Nat} {r : Int32} (hf : f_Pa_isTwofold h0 o = some r) : AM l E 2 mi_Pa_isTwofold [va_rf (some o)] h0 (some (.int r)) h0 :=
  am_of2 [(va_rf (some o), false)] 3 ⟨cat_rf _, trivial⟩ rfl rfl (v_Pa_isTwofold (Nat.le_refl _) (Nat.le_refl _) (fun hz pc L hd => ax_zret rfl hz hd rfl) hf)
theorem w_jA_fill_I_L5 {l : Launch} {E : EN} {R : Room} {B : (Nat × Nat) × (Nat × Nat)} {Qf : QF} {hF : AH} (hR1 : 1 ≤ R.frames) (hR2 : 64 ≤ R.locals) (Hr : ∀ (pc : Nat) (L : List (Option Value)), decode mi_jA_fill_I.2.1 pc = .ok (.return_, 1) → AW l E mi_jA_fill_I R B Qf pc L [] hF) {y0 : Nat} {y1 : Int32} {y3 : Int32} : ∀ (n : Nat) (z2 : Int32) (h : AH), f_jA_fill_I_L5 y0 y1 y3 n z2 h = some hF → AW l E mi_jA_fill_I R B Qf 5 [some (va_rf (some y0)), some (.int y1), some (.int z2), some (.int y3)] [] h := by
  intro n
  induction n with
  | zero => intro z2 h hf; cases hf
  | succ n ih =>
    intro z2 h hf
    rw [f_jA_fill_I_L5] at hf
    refine ax_iload_n (i := 2) djA_fill_I_5 rfl rfl ?_
    refine ax_iload_n (i := 3) djA_fill_I_6 rfl rfl ?_
    replace hf := ite_c hf
    rcases hf with ⟨hc, hf⟩ | ⟨hc, hf⟩
    · refine ax_icmp_geF 20 djA_fill_I_7 (by decide) hc ?_
      refine ax_aload_n (i := 0) (some y0) djA_fill_I_10 rfl rfl ?_
      refine ax_iload_n (i := 2) djA_fill_I_11 rfl rfl ?_
      refine ax_iload_n (i := 1) djA_fill_I_12 rfl rfl ?_
      replace hf := bd1_s hf
      obtain ⟨h3, e_h3, hf⟩ := hf
      refine ax_iast djA_fill_I_13 e_h3 ?_
      refine ax_iinc (i := 2) (z2 + (1 : Int32)) [some (va_rf (some y0)), some (.int y1), some (.int (z2 + (1 : Int32))), some (.int y3)] djA_fill_I_14 rfl (iic k32_1) (Or.inr (c1i rfl)) rfl ?_
      refine ax_goto 5 djA_fill_I_17 (by decide) ?_
      exact ih (z2 + (1 : Int32)) h3 hf
    · refine ax_icmp_geT 20 djA_fill_I_7 (by decide) hc ?_
      cases hf
      exact Hr _ _ djA_fill_I_20
theorem v_jA_fill_I {l : Launch} {E : EN} {R : Room} {B : (Nat × Nat) × (Nat × Nat)} {Qf : QF} {h0 : AH} {p1 : Option Nat} {p2 : Int32} {hF : AH} (hR1 : 1 ≤ R.frames) (hR2 : 64 ≤ R.locals) (Hr : ∀ (pc : Nat) (L : List (Option Value)), decode mi_jA_fill_I.2.1 pc = .ok (.return_, 1) → AW l E mi_jA_fill_I R B Qf pc L [] hF) (hf : f_jA_fill_I h0 p1 p2 = some hF) : AW l E mi_jA_fill_I R B Qf 0 [some (va_rf p1), some (.int p2), none, none] [] h0 := by
  unfold f_jA_fill_I at hf
  refine ax_iconst (0 : Int32) djA_fill_I_0 k32_0 ?_
  refine ax_istore_n (i := 2) [some (va_rf p1), some (.int p2), some (.int (0 : Int32)), none] djA_fill_I_1 rfl (Nat.le_of_ble_eq_true rfl) (Or.inr (c1i rfl)) rfl ?_
  refine ax_aload_n (i := 0) p1 djA_fill_I_2 rfl rfl ?_
  replace hf := bd1_s hf
  obtain ⟨a1, e_d, hf⟩ := hf
  subst e_d
  replace hf := bd1_s hf
  obtain ⟨x2, e_x2, hf⟩ := hf
  refine ax_alen (d := 1) (by decide) rfl djA_fill_I_3 e_x2 ?_
  refine ax_istore_n (i := 3) [some (va_rf (some a1)), some (.int p2), some (.int (0 : Int32)), some (.int x2)] djA_fill_I_4 rfl (Nat.le_of_ble_eq_true rfl) (Or.inr (c1i rfl)) rfl ?_
  refine w_jA_fill_I_L5 hR1 hR2 Hr FU (0 : Int32) h0 hf
theorem c_jA_fill_I {l : Launch} {E : EN} {h0 : AH} {p1 : Option Nat} {p2 : Int32} {hF : AH} (hf : f_jA_fill_I h0 p1 p2 = some hF) : AM l E 1 mi_jA_fill_I [va_rf p1, .int p2] h0 none hF :=
  am_of2 [(va_rf p1, false), (.int p2, false)] 2 ⟨cat_rf _, rfl, trivial⟩ rfl rfl (v_jA_fill_I (Nat.le_refl _) (Nat.le_refl _) (fun pc L hd => ax_vret rfl hd rfl) hf)
theorem v_Pa_mayStop {l : Launch} {E : EN} {R : Room} {B : (Nat × Nat) × (Nat × Nat)} {Qf : QF} {h0 : AH} {o : Nat} {p1 : Int32} {r : Int32} (hR1 : 1 ≤ R.frames) (hR2 : 64 ≤ R.locals) (Hr : (r = 0 ∨ r = 1) → ∀ (pc : Nat) (L : List (Option Value)), decode mi_Pa_mayStop.2.1 pc = .ok (.ireturn, 1) → AW l E mi_Pa_mayStop R B Qf pc L [.int r] h0) (hf : f_Pa_mayStop h0 o p1 = some r) : AW l E mi_Pa_mayStop R B Qf 0 [some (va_rf (some o)), some (.int p1)] [] h0 := by
  unfold f_Pa_mayStop at hf
  refine ax_iload_n (i := 1) dPa_mayStop_0 rfl rfl ?_
  replace hf := ite_c hf
  rcases hf with ⟨hc, hf⟩ | ⟨hc, hf⟩
  · refine ax_if_neF 16 dPa_mayStop_1 (by decide) hc ?_
    refine ax_aload_n (i := 0) (some o) dPa_mayStop_4 rfl rfl ?_
    replace hf := bd1_s hf
    obtain ⟨r6, e_r6, hf⟩ := hf
    refine ax_getR fl_82 rfl dPa_mayStop_5 e_r6 ?_
    refine ax_iconst (0 : Int32) dPa_mayStop_8 k32_0 ?_
    replace hf := bd1_s hf
    obtain ⟨a7, e_d, hf⟩ := hf
    subst e_d
    replace hf := bd1_s hf
    obtain ⟨r8, e_r8, hf⟩ := hf
    refine ax_aald (c := 5) (by decide) rfl rfl dPa_mayStop_9 e_r8 ?_
    replace hf := bd1_s hf
    obtain ⟨a9, e_d, hf⟩ := hf
    subst e_d
    replace hf := bd1_s hf
    obtain ⟨x10, e_x10, hf⟩ := hf
    refine ax_getI fl_50 rfl dPa_mayStop_10 e_x10 ?_
    refine ax_goto 39 dPa_mayStop_13 (by decide) ?_
    replace hf := ite_s hf
    obtain ⟨e_z, hf⟩ := hf
    cases hf
    exact Hr e_z _ _ dPa_mayStop_39
  · refine ax_if_neT 16 dPa_mayStop_1 (by decide) hc ?_
    refine ax_aload_n (i := 0) (some o) dPa_mayStop_16 rfl rfl ?_
    replace hf := bd1_s hf
    obtain ⟨r1, e_r1, hf⟩ := hf
    refine ax_getR fl_82 rfl dPa_mayStop_17 e_r1 ?_
    refine ax_iconst (0 : Int32) dPa_mayStop_20 k32_0 ?_
    replace hf := bd1_s hf
    obtain ⟨a2, e_d, hf⟩ := hf
    subst e_d
    replace hf := bd1_s hf
    obtain ⟨r3, e_r3, hf⟩ := hf
    refine ax_aald (c := 5) (by decide) rfl rfl dPa_mayStop_21 e_r3 ?_
    replace hf := bd1_s hf
    obtain ⟨a4, e_d, hf⟩ := hf
    subst e_d
    replace hf := bd1_s hf
    obtain ⟨x5, e_x5, hf⟩ := hf
    refine ax_getJ fl_48 rfl dPa_mayStop_22 e_x5 ?_
    refine ax_iload_n (i := 1) dPa_mayStop_25 rfl rfl ?_
    refine ax_lshr dPa_mayStop_26 ?_
    refine ax_lconst (1 : Int64) dPa_mayStop_27 kl_1 ?_
    refine ax_land dPa_mayStop_28 ?_
    refine ax_lconst (0 : Int64) dPa_mayStop_29 kl_0 ?_
    refine ax_lcmp dPa_mayStop_30 ?_
    replace hf := ite_c hf
    rcases hf with ⟨hc, hf⟩ | ⟨hc, hf⟩
    · refine ax_if_eqT 38 dPa_mayStop_31 (by decide) hc ?_
      refine ax_iconst (0 : Int32) dPa_mayStop_38 k32_0 ?_
      cases hf
      exact Hr (Or.inl rfl) _ _ dPa_mayStop_39
    · refine ax_if_eqF 38 dPa_mayStop_31 (by decide) hc ?_
      refine ax_iconst (1 : Int32) dPa_mayStop_34 k32_1 ?_
      refine ax_goto 39 dPa_mayStop_35 (by decide) ?_
      cases hf
      exact Hr (Or.inr rfl) _ _ dPa_mayStop_39
theorem c_Pa_mayStop {l : Launch} {E : EN} {h0 : AH} {o : Nat} {p1 : Int32} {r : Int32} (hf : f_Pa_mayStop h0 o p1 = some r) : AM l E 1 mi_Pa_mayStop [va_rf (some o), .int p1] h0 (some (.int r)) h0 :=
  am_of2 [(va_rf (some o), false), (.int p1, false)] 0 ⟨cat_rf _, rfl, trivial⟩ rfl rfl (v_Pa_mayStop (Nat.le_refl _) (Nat.le_refl _) (fun hz pc L hd => ax_zret rfl hz hd rfl) hf)
theorem v_Ta_addStep {l : Launch} {E : EN} {R : Room} {B : (Nat × Nat) × (Nat × Nat)} {Qf : QF} {h0 : AH} {o : Nat} {p1 : Int32} {p2 : Int32} {p3 : Int32} {hF : AH} (hR1 : 1 ≤ R.frames) (hR2 : 64 ≤ R.locals) (Hr : ∀ (pc : Nat) (L : List (Option Value)), decode mi_Ta_addStep.2.1 pc = .ok (.return_, 1) → AW l E mi_Ta_addStep R B Qf pc L [] hF) (hf : f_Ta_addStep h0 o p1 p2 p3 = some hF) : AW l E mi_Ta_addStep R B Qf 0 [some (va_rf (some o)), some (.int p1), some (.int p2), some (.int p3)] [] h0 := by
  unfold f_Ta_addStep at hf
  refine ax_aload_n (i := 0) (some o) dTa_addStep_0 rfl rfl ?_
  replace hf := bd1_s hf
  obtain ⟨r1, e_r1, hf⟩ := hf
  refine ax_getR fl_475 rfl dTa_addStep_1 e_r1 ?_
  refine ax_iload_n (i := 1) dTa_addStep_4 rfl rfl ?_
  refine ax_bipush (16 : Int32) dTa_addStep_5 k8_16 ?_
  refine ax_imul dTa_addStep_7 ?_
  refine ax_iload_n (i := 2) dTa_addStep_8 rfl rfl ?_
  refine ax_iadd dTa_addStep_9 ?_
  refine ax_iload_n (i := 3) dTa_addStep_10 rfl rfl ?_
  replace hf := bd1_s hf
  obtain ⟨a2, e_d, hf⟩ := hf
  subst e_d
  replace hf := bd1_s hf
  obtain ⟨h3, e_h3, hf⟩ := hf
  refine ax_iast dTa_addStep_11 e_h3 ?_
  refine ax_iload_n (i := 2) dTa_addStep_12 rfl rfl ?_
  refine ax_bipush (8 : Int32) dTa_addStep_13 k8_8 ?_
  replace hf := ite_c hf
  rcases hf with ⟨hc, hf⟩ | ⟨hc, hf⟩
  · refine ax_icmp_geF 33 dTa_addStep_15 (by decide) hc ?_
    refine ax_aload_n (i := 0) (some o) dTa_addStep_18 rfl rfl ?_
    replace hf := bd1_s hf
    obtain ⟨r8, e_r8, hf⟩ := hf
    refine ax_getR fl_476 rfl dTa_addStep_19 e_r8 ?_
    refine ax_iload_n (i := 1) dTa_addStep_22 rfl rfl ?_
    refine ax_dup2 dTa_addStep_23 rfl (cat_rf _) ?_
    replace hf := bd1_s hf
    obtain ⟨a9, e_d, hf⟩ := hf
    subst e_d
    replace hf := bd1_s hf
    obtain ⟨x10, e_x10, hf⟩ := hf
    refine ax_iald dTa_addStep_24 e_x10 ?_
    refine ax_iconst (1 : Int32) dTa_addStep_25 k32_1 ?_
    refine ax_iload_n (i := 2) dTa_addStep_26 rfl rfl ?_
    refine ax_ishl dTa_addStep_27 ?_
    refine ax_ior dTa_addStep_28 ?_
    replace hf := bd1_s hf
    obtain ⟨h11, e_h11, hf⟩ := hf
    refine ax_iast dTa_addStep_29 e_h11 ?_
    refine ax_goto 48 dTa_addStep_30 (by decide) ?_
    cases hf
    exact Hr _ _ dTa_addStep_48
  · refine ax_icmp_geT 33 dTa_addStep_15 (by decide) hc ?_
    refine ax_aload_n (i := 0) (some o) dTa_addStep_33 rfl rfl ?_
    replace hf := bd1_s hf
    obtain ⟨r4, e_r4, hf⟩ := hf
    refine ax_getR fl_480 rfl dTa_addStep_34 e_r4 ?_
    refine ax_iload_n (i := 1) dTa_addStep_37 rfl rfl ?_
    refine ax_dup2 dTa_addStep_38 rfl (cat_rf _) ?_
    replace hf := bd1_s hf
    obtain ⟨a5, e_d, hf⟩ := hf
    subst e_d
    replace hf := bd1_s hf
    obtain ⟨x6, e_x6, hf⟩ := hf
    refine ax_iald dTa_addStep_39 e_x6 ?_
    refine ax_iconst (1 : Int32) dTa_addStep_40 k32_1 ?_
    refine ax_iload_n (i := 2) dTa_addStep_41 rfl rfl ?_
    refine ax_bipush (8 : Int32) dTa_addStep_42 k8_8 ?_
    refine ax_isub dTa_addStep_44 ?_
    refine ax_ishl dTa_addStep_45 ?_
    refine ax_ior dTa_addStep_46 ?_
    replace hf := bd1_s hf
    obtain ⟨h7, e_h7, hf⟩ := hf
    refine ax_iast dTa_addStep_47 e_h7 ?_
    cases hf
    exact Hr _ _ dTa_addStep_48
theorem c_Ta_addStep {l : Launch} {E : EN} {h0 : AH} {o : Nat} {p1 : Int32} {p2 : Int32} {p3 : Int32} {hF : AH} (hf : f_Ta_addStep h0 o p1 p2 p3 = some hF) : AM l E 1 mi_Ta_addStep [va_rf (some o), .int p1, .int p2, .int p3] h0 none hF :=
  am_of2 [(va_rf (some o), false), (.int p1, false), (.int p2, false), (.int p3, false)] 0 ⟨cat_rf _, rfl, rfl, rfl, trivial⟩ rfl rfl (v_Ta_addStep (Nat.le_refl _) (Nat.le_refl _) (fun pc L hd => ax_vret rfl hd rfl) hf)
