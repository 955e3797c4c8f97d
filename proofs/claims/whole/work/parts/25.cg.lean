theorem v_jL_bitCount {l : Launch} {E : EN} {R : Room} {B : (Nat × Nat) × (Nat × Nat)} {Qf : QF} {h0 : AH} {p1 : Int64} {r : Int32} (hR1 : 1 ≤ R.frames) (hR2 : 64 ≤ R.locals) (Hr : ∀ (pc : Nat) (L : List (Option Value)), decode mi_jL_bitCount.2.1 pc = .ok (.ireturn, 1) → AW l E mi_jL_bitCount R B Qf pc L [.int r] h0) (hf : f_jL_bitCount h0 p1 = some r) : AW l E mi_jL_bitCount R B Qf 0 [some (.long p1), none] [] h0 := by
  unfold f_jL_bitCount at hf
  refine ax_lload_n (i := 0) djL_bitCount_0 rfl rfl ?_
  refine ax_lload_n (i := 0) djL_bitCount_1 rfl rfl ?_
  refine ax_iconst (1 : Int32) djL_bitCount_2 k32_1 ?_
  refine ax_lushr djL_bitCount_3 ?_
  refine ax_ldc2 w_950 djL_bitCount_4 ?_
  refine ax_land djL_bitCount_7 ?_
  refine ax_lsub djL_bitCount_8 ?_
  replace hf := bd1_s hf
  obtain ⟨x1, e_x1, hf⟩ := hf
  refine ax_nmJ (Option.some.inj e_x1) ?_
  refine ax_lstore_n (i := 0) [some (.long x1), none] djL_bitCount_9 rfl (Nat.le_of_ble_eq_true rfl) (Or.inl rfl) rfl ?_
  refine ax_lload_n (i := 0) djL_bitCount_10 rfl rfl ?_
  refine ax_ldc2 w_951 djL_bitCount_11 ?_
  refine ax_land djL_bitCount_14 ?_
  refine ax_lload_n (i := 0) djL_bitCount_15 rfl rfl ?_
  refine ax_iconst (2 : Int32) djL_bitCount_16 k32_2 ?_
  refine ax_lushr djL_bitCount_17 ?_
  refine ax_ldc2 w_951 djL_bitCount_18 ?_
  refine ax_land djL_bitCount_21 ?_
  refine ax_ladd djL_bitCount_22 ?_
  replace hf := bd1_s hf
  obtain ⟨x2, e_x2, hf⟩ := hf
  refine ax_nmJ (Option.some.inj e_x2) ?_
  refine ax_lstore_n (i := 0) [some (.long x2), none] djL_bitCount_23 rfl (Nat.le_of_ble_eq_true rfl) (Or.inl rfl) rfl ?_
  refine ax_lload_n (i := 0) djL_bitCount_24 rfl rfl ?_
  refine ax_lload_n (i := 0) djL_bitCount_25 rfl rfl ?_
  refine ax_iconst (4 : Int32) djL_bitCount_26 k32_4 ?_
  refine ax_lushr djL_bitCount_27 ?_
  refine ax_ladd djL_bitCount_28 ?_
  refine ax_ldc2 w_952 djL_bitCount_29 ?_
  refine ax_land djL_bitCount_32 ?_
  replace hf := bd1_s hf
  obtain ⟨x3, e_x3, hf⟩ := hf
  refine ax_nmJ (Option.some.inj e_x3) ?_
  refine ax_lstore_n (i := 0) [some (.long x3), none] djL_bitCount_33 rfl (Nat.le_of_ble_eq_true rfl) (Or.inl rfl) rfl ?_
  refine ax_lload_n (i := 0) djL_bitCount_34 rfl rfl ?_
  refine ax_lload_n (i := 0) djL_bitCount_35 rfl rfl ?_
  refine ax_bipush (8 : Int32) djL_bitCount_36 k8_8 ?_
  refine ax_lushr djL_bitCount_38 ?_
  refine ax_ladd djL_bitCount_39 ?_
  replace hf := bd1_s hf
  obtain ⟨x4, e_x4, hf⟩ := hf
  refine ax_nmJ (Option.some.inj e_x4) ?_
  refine ax_lstore_n (i := 0) [some (.long x4), none] djL_bitCount_40 rfl (Nat.le_of_ble_eq_true rfl) (Or.inl rfl) rfl ?_
  refine ax_lload_n (i := 0) djL_bitCount_41 rfl rfl ?_
  refine ax_lload_n (i := 0) djL_bitCount_42 rfl rfl ?_
  refine ax_bipush (16 : Int32) djL_bitCount_43 k8_16 ?_
  refine ax_lushr djL_bitCount_45 ?_
  refine ax_ladd djL_bitCount_46 ?_
  replace hf := bd1_s hf
  obtain ⟨x5, e_x5, hf⟩ := hf
  refine ax_nmJ (Option.some.inj e_x5) ?_
  refine ax_lstore_n (i := 0) [some (.long x5), none] djL_bitCount_47 rfl (Nat.le_of_ble_eq_true rfl) (Or.inl rfl) rfl ?_
  refine ax_lload_n (i := 0) djL_bitCount_48 rfl rfl ?_
  refine ax_lload_n (i := 0) djL_bitCount_49 rfl rfl ?_
  refine ax_bipush (32 : Int32) djL_bitCount_50 k8_32 ?_
  refine ax_lushr djL_bitCount_52 ?_
  refine ax_ladd djL_bitCount_53 ?_
  replace hf := bd1_s hf
  obtain ⟨x6, e_x6, hf⟩ := hf
  refine ax_nmJ (Option.some.inj e_x6) ?_
  refine ax_lstore_n (i := 0) [some (.long x6), none] djL_bitCount_54 rfl (Nat.le_of_ble_eq_true rfl) (Or.inl rfl) rfl ?_
  refine ax_lload_n (i := 0) djL_bitCount_55 rfl rfl ?_
  refine ax_l2i djL_bitCount_56 ?_
  refine ax_bipush (127 : Int32) djL_bitCount_57 k8_127 ?_
  refine ax_iand djL_bitCount_59 ?_
  cases hf
  exact Hr _ _ djL_bitCount_60
theorem c_jL_bitCount {l : Launch} {E : EN} {h0 : AH} {p1 : Int64} {r : Int32} (hf : f_jL_bitCount h0 p1 = some r) : AM l E 1 mi_jL_bitCount [.long p1] h0 (some (.int r)) h0 :=
  am_of2 [(.long p1, true)] 0 ⟨rfl, trivial⟩ rfl rfl (v_jL_bitCount (Nat.le_refl _) (Nat.le_refl _) (fun pc L hd => ax_iret rfl hd rfl) hf)
theorem w_Wo_size_L4 {l : Launch} {E : EN} {R : Room} {B : (Nat × Nat) × (Nat × Nat)} {Qf : QF} {h0 : AH} {r : Int32} (hR1 : 2 ≤ R.frames) (hR2 : 128 ≤ R.locals) (Hr : ∀ (pc : Nat) (L : List (Option Value)), decode mi_Wo_size.2.1 pc = .ok (.ireturn, 1) → AW l E mi_Wo_size R B Qf pc L [.int r] h0) {y0 : Nat} : ∀ (n : Nat) (z1 : Int32) (z2 : Int32), f_Wo_size_L4 h0 y0 n z1 z2 = some r → AW l E mi_Wo_size R B Qf 4 [some (va_rf (some y0)), some (.int z1), some (.int z2)] [] h0 := by
  intro n
  induction n with
  | zero => intro z1 z2 hf; cases hf
  | succ n ih =>
    intro z1 z2 hf
    rw [f_Wo_size_L4] at hf
    refine ax_iload_n (i := 2) dWo_size_4 rfl rfl ?_
    refine ax_bipush (64 : Int32) dWo_size_5 k8_64 ?_
    replace hf := ite_c hf
    rcases hf with ⟨hc, hf⟩ | ⟨hc, hf⟩
    · refine ax_icmp_geF 28 dWo_size_7 (by decide) hc ?_
      refine ax_iload_n (i := 1) dWo_size_10 rfl rfl ?_
      refine ax_aload_n (i := 0) (some y0) dWo_size_11 rfl rfl ?_
      replace hf := bd1_s hf
      obtain ⟨r1, e_r1, hf⟩ := hf
      refine ax_getR fl_294 rfl dWo_size_12 e_r1 ?_
      refine ax_iload_n (i := 2) dWo_size_15 rfl rfl ?_
      replace hf := bd1_s hf
      obtain ⟨a2, e_d, hf⟩ := hf
      subst e_d
      replace hf := bd1_s hf
      obtain ⟨x3, e_x3, hf⟩ := hf
      refine ax_lald dWo_size_16 e_x3 ?_
      replace hf := bd1_s hf
      obtain ⟨x4, e_x4, hf⟩ := hf
      refine ax_callS (As := [.long x3]) (rest := [.int z1]) (c_jL_bitCount e_x4) ml_947 cm_jL_bitCount (Nat.le_trans (Nat.le_of_ble_eq_true rfl) hR1) (Nat.le_trans (Nat.le_of_ble_eq_true rfl) hR2) rfl rfl (Nat.le_of_ble_eq_true rfl) dWo_size_17 ?_
      refine ax_iadd dWo_size_20 ?_
      replace hf := bd1_s hf
      obtain ⟨x5, e_x5, hf⟩ := hf
      refine ax_nmI (Option.some.inj e_x5) ?_
      refine ax_istore_n (i := 1) [some (va_rf (some y0)), some (.int x5), some (.int z2)] dWo_size_21 rfl (Nat.le_of_ble_eq_true rfl) (Or.inr (c1r rfl)) rfl ?_
      refine ax_iinc (i := 2) (z2 + (1 : Int32)) [some (va_rf (some y0)), some (.int x5), some (.int (z2 + (1 : Int32)))] dWo_size_22 rfl (iic k32_1) (Or.inr (c1i rfl)) rfl ?_
      refine ax_goto 4 dWo_size_25 (by decide) ?_
      exact ih x5 (z2 + (1 : Int32)) hf
    · refine ax_icmp_geT 28 dWo_size_7 (by decide) hc ?_
      refine ax_iload_n (i := 1) dWo_size_28 rfl rfl ?_
      cases hf
      exact Hr _ _ dWo_size_29
theorem v_Wo_size {l : Launch} {E : EN} {R : Room} {B : (Nat × Nat) × (Nat × Nat)} {Qf : QF} {h0 : AH} {o : Nat} {r : Int32} (hR1 : 2 ≤ R.frames) (hR2 : 128 ≤ R.locals) (Hr : ∀ (pc : Nat) (L : List (Option Value)), decode mi_Wo_size.2.1 pc = .ok (.ireturn, 1) → AW l E mi_Wo_size R B Qf pc L [.int r] h0) (hf : f_Wo_size h0 o = some r) : AW l E mi_Wo_size R B Qf 0 [some (va_rf (some o)), none, none] [] h0 := by
  unfold f_Wo_size at hf
  refine ax_iconst (0 : Int32) dWo_size_0 k32_0 ?_
  refine ax_istore_n (i := 1) [some (va_rf (some o)), some (.int (0 : Int32)), none] dWo_size_1 rfl (Nat.le_of_ble_eq_true rfl) (Or.inr (c1r rfl)) rfl ?_
  refine ax_iconst (0 : Int32) dWo_size_2 k32_0 ?_
  refine ax_istore_n (i := 2) [some (va_rf (some o)), some (.int (0 : Int32)), some (.int (0 : Int32))] dWo_size_3 rfl (Nat.le_of_ble_eq_true rfl) (Or.inr (c1i rfl)) rfl ?_
  refine w_Wo_size_L4 hR1 hR2 Hr FU (0 : Int32) (0 : Int32) hf
theorem c_Wo_size {l : Launch} {E : EN} {h0 : AH} {o : Nat} {r : Int32} (hf : f_Wo_size h0 o = some r) : AM l E 2 mi_Wo_size [va_rf (some o)] h0 (some (.int r)) h0 :=
  am_of2 [(va_rf (some o), false)] 2 ⟨cat_rf _, trivial⟩ rfl rfl (v_Wo_size (Nat.le_refl _) (Nat.le_refl _) (fun pc L hd => ax_iret rfl hd rfl) hf)
theorem v_C_worlds {l : Launch} {E : EN} {R : Room} {B : (Nat × Nat) × (Nat × Nat)} {Qf : QF} {h0 : AH} {o : Nat} {p1 : Int32} {r : Int32} (hR1 : 3 ≤ R.frames) (hR2 : 192 ≤ R.locals) (Hr : ∀ (pc : Nat) (L : List (Option Value)), decode mi_C_worlds.2.1 pc = .ok (.ireturn, 1) → AW l E mi_C_worlds R B Qf pc L [.int r] h0) (hf : f_C_worlds h0 o p1 = some r) : AW l E mi_C_worlds R B Qf 0 [some (va_rf (some o)), some (.int p1)] [] h0 := by
  unfold f_C_worlds at hf
  refine ax_iload_n (i := 1) dC_worlds_0 rfl rfl ?_
  replace hf := ite_c hf
  rcases hf with ⟨hc, hf⟩ | ⟨hc, hf⟩
  · refine ax_if_ltT 15 dC_worlds_1 (by decide) hc ?_
    refine ax_bipush (-101 : Int32) dC_worlds_15 k8_m101 ?_
    refine ax_goto 32 dC_worlds_17 (by decide) ?_
    cases hf
    exact Hr _ _ dC_worlds_32
  · refine ax_if_ltF 15 dC_worlds_1 (by decide) hc ?_
    refine ax_iload_n (i := 1) dC_worlds_4 rfl rfl ?_
    refine ax_aload_n (i := 0) (some o) dC_worlds_5 rfl rfl ?_
    replace hf := bd1_s hf
    obtain ⟨r1, e_r1, hf⟩ := hf
    refine ax_getR fl_331 rfl dC_worlds_6 e_r1 ?_
    replace hf := bd1_s hf
    obtain ⟨a2, e_d, hf⟩ := hf
    subst e_d
    replace hf := bd1_s hf
    obtain ⟨x3, e_x3, hf⟩ := hf
    refine ax_getI fl_301 rfl dC_worlds_9 e_x3 ?_
    replace hf := ite_c hf
    rcases hf with ⟨hc, hf⟩ | ⟨hc, hf⟩
    · refine ax_icmp_leF 20 dC_worlds_12 (by decide) hc ?_
      refine ax_bipush (-101 : Int32) dC_worlds_15 k8_m101 ?_
      refine ax_goto 32 dC_worlds_17 (by decide) ?_
      cases hf
      exact Hr _ _ dC_worlds_32
    · refine ax_icmp_leT 20 dC_worlds_12 (by decide) hc ?_
      refine ax_aload_n (i := 0) (some o) dC_worlds_20 rfl rfl ?_
      replace hf := bd1_s hf
      obtain ⟨r4, e_r4, hf⟩ := hf
      refine ax_getR fl_331 rfl dC_worlds_21 e_r4 ?_
      replace hf := bd1_s hf
      obtain ⟨a5, e_d, hf⟩ := hf
      subst e_d
      replace hf := bd1_s hf
      obtain ⟨r6, e_r6, hf⟩ := hf
      refine ax_getR fl_299 rfl dC_worlds_24 e_r6 ?_
      refine ax_iload_n (i := 1) dC_worlds_27 rfl rfl ?_
      replace hf := bd1_s hf
      obtain ⟨a7, e_d, hf⟩ := hf
      subst e_d
      replace hf := bd1_s hf
      obtain ⟨r8, e_r8, hf⟩ := hf
      refine ax_aald (c := 11) (by decide) rfl rfl dC_worlds_28 e_r8 ?_
      replace hf := bd1_s hf
      obtain ⟨a9, e_d, hf⟩ := hf
      subst e_d
      replace hf := bd1_s hf
      obtain ⟨x10, e_x10, hf⟩ := hf
      obtain ⟨k_e_x10, e_x10⟩ := cv_s e_x10
      refine ax_callV (As := []) (rest := []) (c_Wo_size e_x10) ml_943 cm_Wo_size rfl k_e_x10 (Nat.le_trans (Nat.le_of_ble_eq_true rfl) hR1) (Nat.le_trans (Nat.le_of_ble_eq_true rfl) hR2) rfl rfl (Nat.le_of_ble_eq_true rfl) dC_worlds_29 ?_
      cases hf
      exact Hr _ _ dC_worlds_32
theorem c_C_worlds {l : Launch} {E : EN} {h0 : AH} {o : Nat} {p1 : Int32} {r : Int32} (hf : f_C_worlds h0 o p1 = some r) : AM l E 3 mi_C_worlds [va_rf (some o), .int p1] h0 (some (.int r)) h0 :=
  am_of2 [(va_rf (some o), false), (.int p1, false)] 0 ⟨cat_rf _, rfl, trivial⟩ rfl rfl (v_C_worlds (Nat.le_refl _) (Nat.le_refl _) (fun pc L hd => ax_iret rfl hd rfl) hf)
theorem v_Lo_last {l : Launch} {E : EN} {R : Room} {B : (Nat × Nat) × (Nat × Nat)} {Qf : QF} {h0 : AH} {o : Nat} {r : Option Nat} (hR1 : 1 ≤ R.frames) (hR2 : 64 ≤ R.locals) (Hr : ∀ (pc : Nat) (L : List (Option Value)), decode mi_Lo_last.2.1 pc = .ok (.areturn, 1) → AW l E mi_Lo_last R B Qf pc L [va_rf r] h0) (hf : f_Lo_last h0 o = some r) : AW l E mi_Lo_last R B Qf 0 [some (va_rf (some o))] [] h0 := by
  unfold f_Lo_last at hf
  refine ax_aload_n (i := 0) (some o) dLo_last_0 rfl rfl ?_
  replace hf := bd1_s hf
  obtain ⟨r1, e_r1, hf⟩ := hf
  refine ax_getR fl_298 rfl dLo_last_1 e_r1 ?_
  refine ax_aload_n (i := 0) (some o) dLo_last_4 rfl rfl ?_
  replace hf := bd1_s hf
  obtain ⟨x2, e_x2, hf⟩ := hf
  refine ax_getI fl_300 rfl dLo_last_5 e_x2 ?_
  replace hf := bd1_s hf
  obtain ⟨a3, e_d, hf⟩ := hf
  subst e_d
  replace hf := bd1_s hf
  obtain ⟨r4, e_r4, hf⟩ := hf
  refine ax_aald (c := 11) (by decide) rfl rfl dLo_last_8 e_r4 ?_
  cases hf
  exact Hr _ _ dLo_last_9
theorem c_Lo_last {l : Launch} {E : EN} {h0 : AH} {o : Nat} {r : Option Nat} (hf : f_Lo_last h0 o = some r) : AM l E 1 mi_Lo_last [va_rf (some o)] h0 (some (va_rf r)) h0 :=
  am_of2 [(va_rf (some o), false)] 0 ⟨cat_rf _, trivial⟩ rfl rfl (v_Lo_last (Nat.le_refl _) (Nat.le_refl _) (fun pc L hd => ax_aret rfl hd rfl) hf)
theorem w_Wo_heldInAll_L14 {l : Launch} {E : EN} {R : Room} {B : (Nat × Nat) × (Nat × Nat)} {Qf : QF} {h0 : AH} {ρ : Type} {res : ρ} (hR1 : 3 ≤ R.frames) (hR2 : 192 ≤ R.locals) {y0 : Nat} {y2 : Int32} {k : Int32 → Option (ρ)} (hk : ∀ (z1 : Int32), k z1 = some res → AW l E mi_Wo_heldInAll R B Qf 61 [some (va_rf (some y0)), some (.int z1), some (.int y2), none] [] h0) : ∀ (n : Nat) (z1 : Int32) (z3 : Int32), f_Wo_heldInAll_L14 h0 y0 y2 k n z1 z3 = some res → AW l E mi_Wo_heldInAll R B Qf 14 [some (va_rf (some y0)), some (.int z1), some (.int y2), some (.int z3)] [] h0 := by
  intro n
  induction n with
  | zero => intro z1 z3 hf; cases hf
  | succ n ih =>
    intro z1 z3 hf
    rw [f_Wo_heldInAll_L14] at hf
    refine ax_iload_n (i := 3) dWo_heldInAll_14 rfl rfl ?_
    refine ax_bipush (64 : Int32) dWo_heldInAll_15 k8_64 ?_
    replace hf := ite_c hf
    rcases hf with ⟨hc, hf⟩ | ⟨hc, hf⟩
    · refine ax_icmp_geF 61 dWo_heldInAll_17 (by decide) hc ?_
      refine ax_iload_n (i := 1) dWo_heldInAll_20 rfl rfl ?_
      refine ax_aload_n (i := 0) (some y0) dWo_heldInAll_21 rfl rfl ?_
      replace hf := bd1_s hf
      obtain ⟨r1, e_r1, hf⟩ := hf
      refine ax_getR fl_294 rfl dWo_heldInAll_22 e_r1 ?_
      refine ax_iload_n (i := 3) dWo_heldInAll_25 rfl rfl ?_
      replace hf := bd1_s hf
      obtain ⟨a2, e_d, hf⟩ := hf
      subst e_d
      replace hf := bd1_s hf
      obtain ⟨x3, e_x3, hf⟩ := hf
      refine ax_lald dWo_heldInAll_26 e_x3 ?_
      refine ax_iload_n (i := 3) dWo_heldInAll_27 rfl rfl ?_
      refine ax_iload_n (i := 2) dWo_heldInAll_28 rfl rfl ?_
      replace hf := bd1_s hf
      obtain ⟨x4, e_x4, hf⟩ := hf
      refine ax_callS (As := [.int z3, .int y2]) (rest := [.long x3, .int z1]) (c_Wo_holders e_x4) ml_909 cm_Wo_holders (Nat.le_trans (Nat.le_of_ble_eq_true rfl) hR1) (Nat.le_trans (Nat.le_of_ble_eq_true rfl) hR2) rfl rfl (Nat.le_of_ble_eq_true rfl) dWo_heldInAll_29 ?_
      refine ax_ldc2 w_914 dWo_heldInAll_32 ?_
      refine ax_lxor dWo_heldInAll_35 ?_
      refine ax_land dWo_heldInAll_36 ?_
      refine ax_lconst (0 : Int64) dWo_heldInAll_37 kl_0 ?_
      refine ax_lcmp dWo_heldInAll_38 ?_
      replace hf := bd1_s hf
      obtain ⟨x5, hT, hf⟩ := hf
      have K : AW l E mi_Wo_heldInAll R B Qf 53 [some (va_rf (some y0)), none, some (.int y2), some (.int z3)] [.int x5, .int z1] h0 := by
        clear hT
        refine ax_iand dWo_heldInAll_53 ?_
        replace hf := bd1_s hf
        obtain ⟨x6, e_x6, hf⟩ := hf
        refine ax_nmI (Option.some.inj e_x6) ?_
        refine ax_istore_n (i := 1) [some (va_rf (some y0)), some (.int x6), some (.int y2), some (.int z3)] dWo_heldInAll_54 rfl (Nat.le_of_ble_eq_true rfl) (Or.inr (c1r rfl)) rfl ?_
        refine ax_iinc (i := 3) (z3 + (1 : Int32)) [some (va_rf (some y0)), some (.int x6), some (.int y2), some (.int (z3 + (1 : Int32)))] dWo_heldInAll_55 rfl (iic k32_1) (Or.inr (c1i rfl)) rfl ?_
        refine ax_goto 14 dWo_heldInAll_58 (by decide) ?_
        exact ih x6 (z3 + (1 : Int32)) hf
      replace hf := hT
      clear hT
      replace hf := ite_c hf
      rcases hf with ⟨hc, hf⟩ | ⟨hc, hf⟩
      · refine ax_if_eqT 50 dWo_heldInAll_39 (by decide) hc ?_
        refine ax_sipush (4095 : Int32) dWo_heldInAll_50 k16_4095 ?_
        refine ax_mask [true, false, true, true] rfl [some (va_rf (some y0)), none, some (.int y2), some (.int z3)] rfl ?_
        cases hf
        exact K
      · refine ax_if_eqF 50 dWo_heldInAll_39 (by decide) hc ?_
        refine ax_iconst (1 : Int32) dWo_heldInAll_42 k32_1 ?_
        refine ax_iload_n (i := 2) dWo_heldInAll_43 rfl rfl ?_
        refine ax_ishl dWo_heldInAll_44 ?_
        refine ax_iconst (-1 : Int32) dWo_heldInAll_45 k32_m1 ?_
        refine ax_ixor dWo_heldInAll_46 ?_
        refine ax_goto 53 dWo_heldInAll_47 (by decide) ?_
        refine ax_mask [true, false, true, true] rfl [some (va_rf (some y0)), none, some (.int y2), some (.int z3)] rfl ?_
        cases hf
        exact K
    · refine ax_icmp_geT 61 dWo_heldInAll_17 (by decide) hc ?_
      refine ax_mask [true, true, true, false] rfl [some (va_rf (some y0)), some (.int z1), some (.int y2), none] rfl ?_
      exact hk z1 hf
theorem w_Wo_heldInAll_L6 {l : Launch} {E : EN} {R : Room} {B : (Nat × Nat) × (Nat × Nat)} {Qf : QF} {h0 : AH} {r : Int32} (hR1 : 3 ≤ R.frames) (hR2 : 192 ≤ R.locals) (Hr : ∀ (pc : Nat) (L : List (Option Value)), decode mi_Wo_heldInAll.2.1 pc = .ok (.ireturn, 1) → AW l E mi_Wo_heldInAll R B Qf pc L [.int r] h0) {y0 : Nat} : ∀ (n : Nat) (z1 : Int32) (z2 : Int32), f_Wo_heldInAll_L6 h0 y0 n z1 z2 = some r → AW l E mi_Wo_heldInAll R B Qf 6 [some (va_rf (some y0)), some (.int z1), some (.int z2), none] [] h0 := by
  intro n
  induction n with
  | zero => intro z1 z2 hf; cases hf
  | succ n ih =>
    intro z1 z2 hf
    rw [f_Wo_heldInAll_L6] at hf
    refine ax_iload_n (i := 2) dWo_heldInAll_6 rfl rfl ?_
    refine ax_bipush (12 : Int32) dWo_heldInAll_7 k8_12 ?_
    replace hf := ite_c hf
    rcases hf with ⟨hc, hf⟩ | ⟨hc, hf⟩
    · refine ax_icmp_geF 67 dWo_heldInAll_9 (by decide) hc ?_
      refine ax_iconst (0 : Int32) dWo_heldInAll_12 k32_0 ?_
      refine ax_istore_n (i := 3) [some (va_rf (some y0)), some (.int z1), some (.int z2), some (.int (0 : Int32))] dWo_heldInAll_13 rfl (Nat.le_of_ble_eq_true rfl) (Or.inr (c1i rfl)) rfl ?_
      refine w_Wo_heldInAll_L14 hR1 hR2 (fun x7 hf => ?_) FU z1 (0 : Int32) hf
      refine ax_iinc (i := 2) (z2 + (1 : Int32)) [some (va_rf (some y0)), some (.int x7), some (.int (z2 + (1 : Int32))), none] dWo_heldInAll_61 rfl (iic k32_1) (Or.inr (c1i rfl)) rfl ?_
      refine ax_goto 6 dWo_heldInAll_64 (by decide) ?_
      exact ih x7 (z2 + (1 : Int32)) hf
    · refine ax_icmp_geT 67 dWo_heldInAll_9 (by decide) hc ?_
      refine ax_iload_n (i := 1) dWo_heldInAll_67 rfl rfl ?_
      cases hf
      exact Hr _ _ dWo_heldInAll_68
theorem v_Wo_heldInAll {l : Launch} {E : EN} {R : Room} {B : (Nat × Nat) × (Nat × Nat)} {Qf : QF} {h0 : AH} {o : Nat} {r : Int32} (hR1 : 3 ≤ R.frames) (hR2 : 192 ≤ R.locals) (Hr : ∀ (pc : Nat) (L : List (Option Value)), decode mi_Wo_heldInAll.2.1 pc = .ok (.ireturn, 1) → AW l E mi_Wo_heldInAll R B Qf pc L [.int r] h0) (hf : f_Wo_heldInAll h0 o = some r) : AW l E mi_Wo_heldInAll R B Qf 0 [some (va_rf (some o)), none, none, none] [] h0 := by
  unfold f_Wo_heldInAll at hf
  refine ax_sipush (4095 : Int32) dWo_heldInAll_0 k16_4095 ?_
  refine ax_istore_n (i := 1) [some (va_rf (some o)), some (.int (4095 : Int32)), none, none] dWo_heldInAll_3 rfl (Nat.le_of_ble_eq_true rfl) (Or.inr (c1r rfl)) rfl ?_
  refine ax_iconst (0 : Int32) dWo_heldInAll_4 k32_0 ?_
  refine ax_istore_n (i := 2) [some (va_rf (some o)), some (.int (4095 : Int32)), some (.int (0 : Int32)), none] dWo_heldInAll_5 rfl (Nat.le_of_ble_eq_true rfl) (Or.inr (c1i rfl)) rfl ?_
  refine w_Wo_heldInAll_L6 hR1 hR2 Hr FU (4095 : Int32) (0 : Int32) hf
theorem c_Wo_heldInAll {l : Launch} {E : EN} {h0 : AH} {o : Nat} {r : Int32} (hf : f_Wo_heldInAll h0 o = some r) : AM l E 3 mi_Wo_heldInAll [va_rf (some o)] h0 (some (.int r)) h0 :=
  am_of2 [(va_rf (some o), false)] 3 ⟨cat_rf _, trivial⟩ rfl rfl (v_Wo_heldInAll (Nat.le_refl _) (Nat.le_refl _) (fun pc L hd => ax_iret rfl hd rfl) hf)
theorem w_Wo_heldInSome_L12 {l : Launch} {E : EN} {R : Room} {B : (Nat × Nat) × (Nat × Nat)} {Qf : QF} {h0 : AH} {ρ : Type} {res : ρ} (hR1 : 3 ≤ R.frames) (hR2 : 192 ≤ R.locals) {y0 : Nat} {y2 : Int32} {k : Int32 → Option (ρ)} (hk : ∀ (z1 : Int32), k z1 = some res → AW l E mi_Wo_heldInSome R B Qf 51 [some (va_rf (some y0)), some (.int z1), some (.int y2), none] [] h0) : ∀ (n : Nat) (z1 : Int32) (z3 : Int32), f_Wo_heldInSome_L12 h0 y0 y2 k n z1 z3 = some res → AW l E mi_Wo_heldInSome R B Qf 12 [some (va_rf (some y0)), some (.int z1), some (.int y2), some (.int z3)] [] h0 := by
  intro n
  induction n with
  | zero => intro z1 z3 hf; cases hf
  | succ n ih =>
    intro z1 z3 hf
    rw [f_Wo_heldInSome_L12] at hf
    refine ax_iload_n (i := 3) dWo_heldInSome_12 rfl rfl ?_
    refine ax_bipush (64 : Int32) dWo_heldInSome_13 k8_64 ?_
    replace hf := ite_c hf
    rcases hf with ⟨hc, hf⟩ | ⟨hc, hf⟩
    · refine ax_icmp_geF 51 dWo_heldInSome_15 (by decide) hc ?_
      refine ax_iload_n (i := 1) dWo_heldInSome_18 rfl rfl ?_
      refine ax_aload_n (i := 0) (some y0) dWo_heldInSome_19 rfl rfl ?_
      replace hf := bd1_s hf
      obtain ⟨r1, e_r1, hf⟩ := hf
      refine ax_getR fl_294 rfl dWo_heldInSome_20 e_r1 ?_
      refine ax_iload_n (i := 3) dWo_heldInSome_23 rfl rfl ?_
      replace hf := bd1_s hf
      obtain ⟨a2, e_d, hf⟩ := hf
      subst e_d
      replace hf := bd1_s hf
      obtain ⟨x3, e_x3, hf⟩ := hf
      refine ax_lald dWo_heldInSome_24 e_x3 ?_
      refine ax_iload_n (i := 3) dWo_heldInSome_25 rfl rfl ?_
      refine ax_iload_n (i := 2) dWo_heldInSome_26 rfl rfl ?_
      replace hf := bd1_s hf
      obtain ⟨x4, e_x4, hf⟩ := hf
      refine ax_callS (As := [.int z3, .int y2]) (rest := [.long x3, .int z1]) (c_Wo_holders e_x4) ml_909 cm_Wo_holders (Nat.le_trans (Nat.le_of_ble_eq_true rfl) hR1) (Nat.le_trans (Nat.le_of_ble_eq_true rfl) hR2) rfl rfl (Nat.le_of_ble_eq_true rfl) dWo_heldInSome_27 ?_
      refine ax_land dWo_heldInSome_30 ?_
      refine ax_lconst (0 : Int64) dWo_heldInSome_31 kl_0 ?_
      refine ax_lcmp dWo_heldInSome_32 ?_
      replace hf := bd1_s hf
      obtain ⟨x5, hT, hf⟩ := hf
      have K : AW l E mi_Wo_heldInSome R B Qf 43 [some (va_rf (some y0)), none, some (.int y2), some (.int z3)] [.int x5, .int z1] h0 := by
        clear hT
        refine ax_ior dWo_heldInSome_43 ?_
        replace hf := bd1_s hf
        obtain ⟨x6, e_x6, hf⟩ := hf
        refine ax_nmI (Option.some.inj e_x6) ?_
        refine ax_istore_n (i := 1) [some (va_rf (some y0)), some (.int x6), some (.int y2), some (.int z3)] dWo_heldInSome_44 rfl (Nat.le_of_ble_eq_true rfl) (Or.inr (c1r rfl)) rfl ?_
        refine ax_iinc (i := 3) (z3 + (1 : Int32)) [some (va_rf (some y0)), some (.int x6), some (.int y2), some (.int (z3 + (1 : Int32)))] dWo_heldInSome_45 rfl (iic k32_1) (Or.inr (c1i rfl)) rfl ?_
        refine ax_goto 12 dWo_heldInSome_48 (by decide) ?_
        exact ih x6 (z3 + (1 : Int32)) hf
      replace hf := hT
      clear hT
      replace hf := ite_c hf
      rcases hf with ⟨hc, hf⟩ | ⟨hc, hf⟩
      · refine ax_if_eqT 42 dWo_heldInSome_33 (by decide) hc ?_
        refine ax_iconst (0 : Int32) dWo_heldInSome_42 k32_0 ?_
        refine ax_mask [true, false, true, true] rfl [some (va_rf (some y0)), none, some (.int y2), some (.int z3)] rfl ?_
        cases hf
        exact K
      · refine ax_if_eqF 42 dWo_heldInSome_33 (by decide) hc ?_
        refine ax_iconst (1 : Int32) dWo_heldInSome_36 k32_1 ?_
        refine ax_iload_n (i := 2) dWo_heldInSome_37 rfl rfl ?_
        refine ax_ishl dWo_heldInSome_38 ?_
        refine ax_goto 43 dWo_heldInSome_39 (by decide) ?_
        refine ax_mask [true, false, true, true] rfl [some (va_rf (some y0)), none, some (.int y2), some (.int z3)] rfl ?_
        cases hf
        exact K
    · refine ax_icmp_geT 51 dWo_heldInSome_15 (by decide) hc ?_
      refine ax_mask [true, true, true, false] rfl [some (va_rf (some y0)), some (.int z1), some (.int y2), none] rfl ?_
      exact hk z1 hf
theorem w_Wo_heldInSome_L4 {l : Launch} {E : EN} {R : Room} {B : (Nat × Nat) × (Nat × Nat)} {Qf : QF} {h0 : AH} {r : Int32} (hR1 : 3 ≤ R.frames) (hR2 : 192 ≤ R.locals) (Hr : ∀ (pc : Nat) (L : List (Option Value)), decode mi_Wo_heldInSome.2.1 pc = .ok (.ireturn, 1) → AW l E mi_Wo_heldInSome R B Qf pc L [.int r] h0) {y0 : Nat} : ∀ (n : Nat) (z1 : Int32) (z2 : Int32), f_Wo_heldInSome_L4 h0 y0 n z1 z2 = some r → AW l E mi_Wo_heldInSome R B Qf 4 [some (va_rf (some y0)), some (.int z1), some (.int z2), none] [] h0 := by
  intro n
  induction n with
  | zero => intro z1 z2 hf; cases hf
  | succ n ih =>
    intro z1 z2 hf
    rw [f_Wo_heldInSome_L4] at hf
    refine ax_iload_n (i := 2) dWo_heldInSome_4 rfl rfl ?_
    refine ax_bipush (12 : Int32) dWo_heldInSome_5 k8_12 ?_
    replace hf := ite_c hf
    rcases hf with ⟨hc, hf⟩ | ⟨hc, hf⟩
    · refine ax_icmp_geF 57 dWo_heldInSome_7 (by decide) hc ?_
      refine ax_iconst (0 : Int32) dWo_heldInSome_10 k32_0 ?_
      refine ax_istore_n (i := 3) [some (va_rf (some y0)), some (.int z1), some (.int z2), some (.int (0 : Int32))] dWo_heldInSome_11 rfl (Nat.le_of_ble_eq_true rfl) (Or.inr (c1i rfl)) rfl ?_
      refine w_Wo_heldInSome_L12 hR1 hR2 (fun x7 hf => ?_) FU z1 (0 : Int32) hf
      refine ax_iinc (i := 2) (z2 + (1 : Int32)) [some (va_rf (some y0)), some (.int x7), some (.int (z2 + (1 : Int32))), none] dWo_heldInSome_51 rfl (iic k32_1) (Or.inr (c1i rfl)) rfl ?_
      refine ax_goto 4 dWo_heldInSome_54 (by decide) ?_
      exact ih x7 (z2 + (1 : Int32)) hf
    · refine ax_icmp_geT 57 dWo_heldInSome_7 (by decide) hc ?_
      refine ax_iload_n (i := 1) dWo_heldInSome_57 rfl rfl ?_
      cases hf
      exact Hr _ _ dWo_heldInSome_58
theorem v_Wo_heldInSome {l : Launch} {E : EN} {R : Room} {B : (Nat × Nat) × (Nat × Nat)} {Qf : QF} {h0 : AH} {o : Nat} {r : Int32} (hR1 : 3 ≤ R.frames) (hR2 : 192 ≤ R.locals) (Hr : ∀ (pc : Nat) (L : List (Option Value)), decode mi_Wo_heldInSome.2.1 pc = .ok (.ireturn, 1) → AW l E mi_Wo_heldInSome R B Qf pc L [.int r] h0) (hf : f_Wo_heldInSome h0 o = some r) : AW l E mi_Wo_heldInSome R B Qf 0 [some (va_rf (some o)), none, none, none] [] h0 := by
  unfold f_Wo_heldInSome at hf
  refine ax_iconst (0 : Int32) dWo_heldInSome_0 k32_0 ?_
  refine ax_istore_n (i := 1) [some (va_rf (some o)), some (.int (0 : Int32)), none, none] dWo_heldInSome_1 rfl (Nat.le_of_ble_eq_true rfl) (Or.inr (c1r rfl)) rfl ?_
  refine ax_iconst (0 : Int32) dWo_heldInSome_2 k32_0 ?_
  refine ax_istore_n (i := 2) [some (va_rf (some o)), some (.int (0 : Int32)), some (.int (0 : Int32)), none] dWo_heldInSome_3 rfl (Nat.le_of_ble_eq_true rfl) (Or.inr (c1i rfl)) rfl ?_
  refine w_Wo_heldInSome_L4 hR1 hR2 Hr FU (0 : Int32) (0 : Int32) hf
theorem c_Wo_heldInSome {l : Launch} {E : EN} {h0 : AH} {o : Nat} {r : Int32} (hf : f_Wo_heldInSome h0 o = some r) : AM l E 3 mi_Wo_heldInSome [va_rf (some o)] h0 (some (.int r)) h0 :=
  am_of2 [(va_rf (some o), false)] 3 ⟨cat_rf _, trivial⟩ rfl rfl (v_Wo_heldInSome (Nat.le_refl _) (Nat.le_refl _) (fun pc L hd => ax_iret rfl hd rfl) hf)
theorem v_C_held {l : Launch} {E : EN} {R : Room} {B : (Nat × Nat) × (Nat × Nat)} {Qf : QF} {h0 : AH} {o : Nat} {p1 : Int32} {r : Int32} (hR1 : 4 ≤ R.frames) (hR2 : 256 ≤ R.locals) (Hr : ∀ (pc : Nat) (L : List (Option Value)), decode mi_C_held.2.1 pc = .ok (.ireturn, 1) → AW l E mi_C_held R B Qf pc L [.int r] h0) (hf : f_C_held h0 o p1 = some r) : AW l E mi_C_held R B Qf 0 [some (va_rf (some o)), some (.int p1), none] [] h0 := by
  unfold f_C_held at hf
  refine ax_iload_n (i := 1) dC_held_0 rfl rfl ?_
  replace hf := ite_c hf
  rcases hf with ⟨hc, hf⟩ | ⟨hc, hf⟩
  · refine ax_if_ltT 9 dC_held_1 (by decide) hc ?_
    refine ax_bipush (-102 : Int32) dC_held_9 k8_m102 ?_
    cases hf
    exact Hr _ _ dC_held_11
  · refine ax_if_ltF 9 dC_held_1 (by decide) hc ?_
    refine ax_iload_n (i := 1) dC_held_4 rfl rfl ?_
    refine ax_iconst (1 : Int32) dC_held_5 k32_1 ?_
    replace hf := ite_c hf
    rcases hf with ⟨hc, hf⟩ | ⟨hc, hf⟩
    · refine ax_icmp_leF 12 dC_held_6 (by decide) hc ?_
      refine ax_bipush (-102 : Int32) dC_held_9 k8_m102 ?_
      cases hf
      exact Hr _ _ dC_held_11
    · refine ax_icmp_leT 12 dC_held_6 (by decide) hc ?_
      refine ax_aload_n (i := 0) (some o) dC_held_12 rfl rfl ?_
      replace hf := bd1_s hf
      obtain ⟨r1, e_r1, hf⟩ := hf
      refine ax_getR fl_331 rfl dC_held_13 e_r1 ?_
      replace hf := bd1_s hf
      obtain ⟨a2, e_d, hf⟩ := hf
      subst e_d
      replace hf := bd1_s hf
      obtain ⟨r3, e_r3, hf⟩ := hf
      obtain ⟨k_e_r3, e_r3⟩ := cv_s e_r3
      refine ax_callV (As := []) (rest := []) (c_Lo_last e_r3) ml_957 cm_Lo_last rfl k_e_r3 (Nat.le_trans (Nat.le_of_ble_eq_true rfl) hR1) (Nat.le_trans (Nat.le_of_ble_eq_true rfl) hR2) rfl rfl (Nat.le_of_ble_eq_true rfl) dC_held_16 ?_
      refine ax_astore_n (i := 2) (r := r3) [some (va_rf (some o)), some (.int p1), some (va_rf r3)] dC_held_19 rfl (Nat.le_of_ble_eq_true rfl) (Or.inr (c1i rfl)) rfl ?_
      refine ax_aload_n (i := 2) r3 dC_held_20 rfl rfl ?_
      replace hf := bd1_s hf
      obtain ⟨a4, e_d, hf⟩ := hf
      subst e_d
      replace hf := bd1_s hf
      obtain ⟨x5, e_x5, hf⟩ := hf
      obtain ⟨k_e_x5, e_x5⟩ := cv_s e_x5
      refine ax_callV (As := []) (rest := []) (c_Wo_size e_x5) ml_943 cm_Wo_size rfl k_e_x5 (Nat.le_trans (Nat.le_of_ble_eq_true rfl) hR1) (Nat.le_trans (Nat.le_of_ble_eq_true rfl) hR2) rfl rfl (Nat.le_of_ble_eq_true rfl) dC_held_21 ?_
      replace hf := ite_c hf
      rcases hf with ⟨hc, hf⟩ | ⟨hc, hf⟩
      · refine ax_if_neF 30 dC_held_24 (by decide) hc ?_
        refine ax_bipush (-103 : Int32) dC_held_27 k8_m103 ?_
        cases hf
        exact Hr _ _ dC_held_29
      · refine ax_if_neT 30 dC_held_24 (by decide) hc ?_
        refine ax_iload_n (i := 1) dC_held_30 rfl rfl ?_
        replace hf := ite_c hf
        rcases hf with ⟨hc, hf⟩ | ⟨hc, hf⟩
        · refine ax_if_neF 41 dC_held_31 (by decide) hc ?_
          refine ax_aload_n (i := 2) (some a4) dC_held_34 rfl rfl ?_
          replace hf := bd1_s hf
          obtain ⟨x7, e_x7, hf⟩ := hf
          obtain ⟨k_e_x7, e_x7⟩ := cv_s e_x7
          refine ax_callV (As := []) (rest := []) (c_Wo_heldInAll e_x7) ml_961 cm_Wo_heldInAll rfl k_e_x7 (Nat.le_trans (Nat.le_of_ble_eq_true rfl) hR1) (Nat.le_trans (Nat.le_of_ble_eq_true rfl) hR2) rfl rfl (Nat.le_of_ble_eq_true rfl) dC_held_35 ?_
          refine ax_goto 45 dC_held_38 (by decide) ?_
          cases hf
          exact Hr _ _ dC_held_45
        · refine ax_if_neT 41 dC_held_31 (by decide) hc ?_
          refine ax_aload_n (i := 2) (some a4) dC_held_41 rfl rfl ?_
          replace hf := bd1_s hf
          obtain ⟨x6, e_x6, hf⟩ := hf
          obtain ⟨k_e_x6, e_x6⟩ := cv_s e_x6
          refine ax_callV (As := []) (rest := []) (c_Wo_heldInSome e_x6) ml_965 cm_Wo_heldInSome rfl k_e_x6 (Nat.le_trans (Nat.le_of_ble_eq_true rfl) hR1) (Nat.le_trans (Nat.le_of_ble_eq_true rfl) hR2) rfl rfl (Nat.le_of_ble_eq_true rfl) dC_held_42 ?_
          cases hf
          exact Hr _ _ dC_held_45
theorem c_C_held {l : Launch} {E : EN} {h0 : AH} {o : Nat} {p1 : Int32} {r : Int32} (hf : f_C_held h0 o p1 = some r) : AM l E 4 mi_C_held [va_rf (some o), .int p1] h0 (some (.int r)) h0 :=
  am_of2 [(va_rf (some o), false), (.int p1, false)] 1 ⟨cat_rf _, rfl, trivial⟩ rfl rfl (v_C_held (Nat.le_refl _) (Nat.le_refl _) (fun pc L hd => ax_iret rfl hd rfl) hf)
theorem w_Wo_bitNumbered_L5 {l : Launch} {E : EN} {R : Room} {B : (Nat × Nat) × (Nat × Nat)} {Qf : QF} {h0 : AH} {ρ : Type} {res : ρ} (hR1 : 2 ≤ R.frames) (hR2 : 128 ≤ R.locals) {y2 : Int32} {k : Int64 → Option (ρ)} (hk : ∀ (z3 : Int64), k z3 = some res → AW l E mi_Wo_bitNumbered R B Qf 23 [none, none, none, some (.long z3), none, none] [] h0) : ∀ (n : Nat) (z3 : Int64) (z5 : Int32), f_Wo_bitNumbered_L5 h0 y2 k n z3 z5 = some res → AW l E mi_Wo_bitNumbered R B Qf 5 [none, none, some (.int y2), some (.long z3), none, some (.int z5)] [] h0 := by
  intro n
  induction n with
  | zero => intro z3 z5 hf; cases hf
  | succ n ih =>
    intro z3 z5 hf
    rw [f_Wo_bitNumbered_L5] at hf
    refine ax_iload (i := 5) dWo_bitNumbered_5 rfl ?_
    refine ax_iload_n (i := 2) dWo_bitNumbered_7 rfl rfl ?_
    replace hf := ite_c hf
    rcases hf with ⟨hc, hf⟩ | ⟨hc, hf⟩
    · refine ax_icmp_geF 23 dWo_bitNumbered_8 (by decide) hc ?_
      refine ax_lload_n (i := 3) dWo_bitNumbered_11 rfl rfl ?_
      refine ax_lload_n (i := 3) dWo_bitNumbered_12 rfl rfl ?_
      refine ax_lconst (1 : Int64) dWo_bitNumbered_13 kl_1 ?_
      refine ax_lsub dWo_bitNumbered_14 ?_
      refine ax_land dWo_bitNumbered_15 ?_
      replace hf := bd1_s hf
      obtain ⟨x1, e_x1, hf⟩ := hf
      refine ax_nmJ (Option.some.inj e_x1) ?_
      refine ax_lstore_n (i := 3) [none, none, some (.int y2), some (.long x1), none, some (.int z5)] dWo_bitNumbered_16 rfl (Nat.le_of_ble_eq_true rfl) (Or.inr (c1i rfl)) rfl ?_
      refine ax_iinc (i := 5) (z5 + (1 : Int32)) [none, none, some (.int y2), some (.long x1), none, some (.int (z5 + (1 : Int32)))] dWo_bitNumbered_17 rfl (iic k32_1) (Or.inr (c1n rfl)) rfl ?_
      refine ax_goto 5 dWo_bitNumbered_20 (by decide) ?_
      exact ih x1 (z5 + (1 : Int32)) hf
    · refine ax_icmp_geT 23 dWo_bitNumbered_8 (by decide) hc ?_
      refine ax_mask [true, true, false, true, true, false] rfl [none, none, none, some (.long z3), none, none] rfl ?_
      exact hk z3 hf
theorem v_Wo_bitNumbered {l : Launch} {E : EN} {R : Room} {B : (Nat × Nat) × (Nat × Nat)} {Qf : QF} {h0 : AH} {p1 : Int64} {p2 : Int32} {r : Int32} (hR1 : 2 ≤ R.frames) (hR2 : 128 ≤ R.locals) (Hr : ∀ (pc : Nat) (L : List (Option Value)), decode mi_Wo_bitNumbered.2.1 pc = .ok (.ireturn, 1) → AW l E mi_Wo_bitNumbered R B Qf pc L [.int r] h0) (hf : f_Wo_bitNumbered h0 p1 p2 = some r) : AW l E mi_Wo_bitNumbered R B Qf 0 [some (.long p1), none, some (.int p2), none, none, none] [] h0 := by
  unfold f_Wo_bitNumbered at hf
  refine ax_lload_n (i := 0) dWo_bitNumbered_0 rfl rfl ?_
  refine ax_lstore_n (i := 3) [some (.long p1), none, some (.int p2), some (.long p1), none, none] dWo_bitNumbered_1 rfl (Nat.le_of_ble_eq_true rfl) (Or.inr (c1i rfl)) rfl ?_
  refine ax_iconst (0 : Int32) dWo_bitNumbered_2 k32_0 ?_
  refine ax_istore (i := 5) [some (.long p1), none, some (.int p2), some (.long p1), none, some (.int (0 : Int32))] dWo_bitNumbered_3 (Nat.le_of_ble_eq_true rfl) (Or.inr (c1n rfl)) rfl ?_
  refine ax_mask [false, true, true, true, true, true] rfl [none, none, some (.int p2), some (.long p1), none, some (.int (0 : Int32))] rfl ?_
  refine w_Wo_bitNumbered_L5 hR1 hR2 (fun x2 hf => ?_) FU p1 (0 : Int32) hf
  refine ax_lload_n (i := 3) dWo_bitNumbered_23 rfl rfl ?_
  refine ax_lload_n (i := 3) dWo_bitNumbered_24 rfl rfl ?_
  refine ax_lneg dWo_bitNumbered_25 ?_
  refine ax_land dWo_bitNumbered_26 ?_
  refine ax_lconst (1 : Int64) dWo_bitNumbered_27 kl_1 ?_
  refine ax_lsub dWo_bitNumbered_28 ?_
  replace hf := bd1_s hf
  obtain ⟨x3, e_x3, hf⟩ := hf
  refine ax_callS (As := [.long ((x2 &&& (-x2)) - (1 : Int64))]) (rest := []) (c_jL_bitCount e_x3) ml_947 cm_jL_bitCount (Nat.le_trans (Nat.le_of_ble_eq_true rfl) hR1) (Nat.le_trans (Nat.le_of_ble_eq_true rfl) hR2) rfl rfl (Nat.le_of_ble_eq_true rfl) dWo_bitNumbered_29 ?_
  cases hf
  exact Hr _ _ dWo_bitNumbered_32
theorem c_Wo_bitNumbered {l : Launch} {E : EN} {h0 : AH} {p1 : Int64} {p2 : Int32} {r : Int32} (hf : f_Wo_bitNumbered h0 p1 p2 = some r) : AM l E 2 mi_Wo_bitNumbered [.long p1, .int p2] h0 (some (.int r)) h0 :=
  am_of2 [(.long p1, true), (.int p2, false)] 3 ⟨rfl, rfl, trivial⟩ rfl rfl (v_Wo_bitNumbered (Nat.le_refl _) (Nat.le_refl _) (fun pc L hd => ax_iret rfl hd rfl) hf)
theorem w_Wo_numbered_L4 {l : Launch} {E : EN} {R : Room} {B : (Nat × Nat) × (Nat × Nat)} {Qf : QF} {h0 : AH} {r : Int32} (hR1 : 3 ≤ R.frames) (hR2 : 192 ≤ R.locals) (Hr : ∀ (pc : Nat) (L : List (Option Value)), decode mi_Wo_numbered.2.1 pc = .ok (.ireturn, 1) → AW l E mi_Wo_numbered R B Qf pc L [.int r] h0) {y0 : Nat} {k : Int32 → Int32 → Option (Int32)} (hk : ∀ (z2 : Int32) (z3 : Int32), k z2 z3 = some r → AW l E mi_Wo_numbered R B Qf 31 [some (va_rf (some y0)), none, some (.int z2), some (.int z3), none] [] h0) : ∀ (n : Nat) (z2 : Int32) (z3 : Int32), f_Wo_numbered_L4 h0 y0 k n z2 z3 = some r → AW l E mi_Wo_numbered R B Qf 4 [some (va_rf (some y0)), none, some (.int z2), some (.int z3), none] [] h0 := by
  intro n
  induction n with
  | zero => intro z2 z3 hf; cases hf
  | succ n ih =>
    intro z2 z3 hf
    rw [f_Wo_numbered_L4] at hf
    refine ax_iload_n (i := 3) dWo_numbered_4 rfl rfl ?_
    refine ax_bipush (64 : Int32) dWo_numbered_5 k8_64 ?_
    replace hf := ite_c hf
    rcases hf with ⟨hc, hf⟩ | ⟨hc, hf⟩
    · refine ax_icmp_geF 58 dWo_numbered_7 (by decide) hc ?_
      refine ax_iload_n (i := 2) dWo_numbered_10 rfl rfl ?_
      replace hf := ite_c hf
      rcases hf with ⟨hc, hf⟩ | ⟨hc, hf⟩
      · refine ax_if_ltT 58 dWo_numbered_11 (by decide) hc ?_
        refine ax_iconst (-1 : Int32) dWo_numbered_58 k32_m1 ?_
        cases hf
        exact Hr _ _ dWo_numbered_59
      · refine ax_if_ltF 58 dWo_numbered_11 (by decide) hc ?_
        refine ax_aload_n (i := 0) (some y0) dWo_numbered_14 rfl rfl ?_
        replace hf := bd1_s hf
        obtain ⟨r1, e_r1, hf⟩ := hf
        refine ax_getR fl_294 rfl dWo_numbered_15 e_r1 ?_
        refine ax_iload_n (i := 3) dWo_numbered_18 rfl rfl ?_
        replace hf := bd1_s hf
        obtain ⟨a2, e_d, hf⟩ := hf
        subst e_d
        replace hf := bd1_s hf
        obtain ⟨x3, e_x3, hf⟩ := hf
        refine ax_lald dWo_numbered_19 e_x3 ?_
        replace hf := bd1_s hf
        obtain ⟨x4, e_x4, hf⟩ := hf
        refine ax_callS (As := [.long x3]) (rest := []) (c_jL_bitCount e_x4) ml_947 cm_jL_bitCount (Nat.le_trans (Nat.le_of_ble_eq_true rfl) hR1) (Nat.le_trans (Nat.le_of_ble_eq_true rfl) hR2) rfl rfl (Nat.le_of_ble_eq_true rfl) dWo_numbered_20 ?_
        refine ax_istore (i := 4) [some (va_rf (some y0)), none, some (.int z2), some (.int z3), some (.int x4)] dWo_numbered_23 (Nat.le_of_ble_eq_true rfl) (Or.inr (c1i rfl)) rfl ?_
        refine ax_iload_n (i := 2) dWo_numbered_25 rfl rfl ?_
        refine ax_iload (i := 4) dWo_numbered_26 rfl ?_
        replace hf := ite_c hf
        rcases hf with ⟨hc, hf⟩ | ⟨hc, hf⟩
        · refine ax_icmp_geF 47 dWo_numbered_28 (by decide) hc ?_
          refine ax_mask [true, true, true, true, false] rfl [some (va_rf (some y0)), none, some (.int z2), some (.int z3), none] rfl ?_
          exact hk z2 z3 hf
        · refine ax_icmp_geT 47 dWo_numbered_28 (by decide) hc ?_
          refine ax_iload_n (i := 2) dWo_numbered_47 rfl rfl ?_
          refine ax_iload (i := 4) dWo_numbered_48 rfl ?_
          refine ax_isub dWo_numbered_50 ?_
          replace hf := bd1_s hf
          obtain ⟨x5, e_x5, hf⟩ := hf
          refine ax_nmI (Option.some.inj e_x5) ?_
          refine ax_istore_n (i := 2) [some (va_rf (some y0)), none, some (.int x5), some (.int z3), some (.int x4)] dWo_numbered_51 rfl (Nat.le_of_ble_eq_true rfl) (Or.inr (c1n rfl)) rfl ?_
          refine ax_iinc (i := 3) (z3 + (1 : Int32)) [some (va_rf (some y0)), none, some (.int x5), some (.int (z3 + (1 : Int32))), some (.int x4)] dWo_numbered_52 rfl (iic k32_1) (Or.inr (c1i rfl)) rfl ?_
          refine ax_goto 4 dWo_numbered_55 (by decide) ?_
          refine ax_mask [true, true, true, true, false] rfl [some (va_rf (some y0)), none, some (.int x5), some (.int (z3 + (1 : Int32))), none] rfl ?_
          exact ih x5 (z3 + (1 : Int32)) hf
    · refine ax_icmp_geT 58 dWo_numbered_7 (by decide) hc ?_
      refine ax_iconst (-1 : Int32) dWo_numbered_58 k32_m1 ?_
      cases hf
      exact Hr _ _ dWo_numbered_59
theorem v_Wo_numbered {l : Launch} {E : EN} {R : Room} {B : (Nat × Nat) × (Nat × Nat)} {Qf : QF} {h0 : AH} {o : Nat} {p1 : Int32} {r : Int32} (hR1 : 3 ≤ R.frames) (hR2 : 192 ≤ R.locals) (Hr : ∀ (pc : Nat) (L : List (Option Value)), decode mi_Wo_numbered.2.1 pc = .ok (.ireturn, 1) → AW l E mi_Wo_numbered R B Qf pc L [.int r] h0) (hf : f_Wo_numbered h0 o p1 = some r) : AW l E mi_Wo_numbered R B Qf 0 [some (va_rf (some o)), some (.int p1), none, none, none] [] h0 := by
  unfold f_Wo_numbered at hf
  refine ax_iload_n (i := 1) dWo_numbered_0 rfl rfl ?_
  refine ax_istore_n (i := 2) [some (va_rf (some o)), some (.int p1), some (.int p1), none, none] dWo_numbered_1 rfl (Nat.le_of_ble_eq_true rfl) (Or.inr (c1i rfl)) rfl ?_
  refine ax_iconst (0 : Int32) dWo_numbered_2 k32_0 ?_
  refine ax_istore_n (i := 3) [some (va_rf (some o)), some (.int p1), some (.int p1), some (.int (0 : Int32)), none] dWo_numbered_3 rfl (Nat.le_of_ble_eq_true rfl) (Or.inr (c1i rfl)) rfl ?_
  refine ax_mask [true, false, true, true, true] rfl [some (va_rf (some o)), none, some (.int p1), some (.int (0 : Int32)), none] rfl ?_
  refine w_Wo_numbered_L4 hR1 hR2 Hr (fun x6 x7 hf => ?_) FU p1 (0 : Int32) hf
  refine ax_iload_n (i := 3) dWo_numbered_31 rfl rfl ?_
  refine ax_bipush (6 : Int32) dWo_numbered_32 k8_6 ?_
  refine ax_ishl dWo_numbered_34 ?_
  refine ax_aload_n (i := 0) (some o) dWo_numbered_35 rfl rfl ?_
  replace hf := bd1_s hf
  obtain ⟨r8, e_r8, hf⟩ := hf
  refine ax_getR fl_294 rfl dWo_numbered_36 e_r8 ?_
  refine ax_iload_n (i := 3) dWo_numbered_39 rfl rfl ?_
  replace hf := bd1_s hf
  obtain ⟨a9, e_d, hf⟩ := hf
  subst e_d
  replace hf := bd1_s hf
  obtain ⟨x10, e_x10, hf⟩ := hf
  refine ax_lald dWo_numbered_40 e_x10 ?_
  refine ax_iload_n (i := 2) dWo_numbered_41 rfl rfl ?_
  replace hf := bd1_s hf
  obtain ⟨x11, e_x11, hf⟩ := hf
  refine ax_callS (As := [.long x10, .int x6]) (rest := [.int (x7 <<< ((6 : Int32) &&& 31))]) (c_Wo_bitNumbered e_x11) ml_977 cm_Wo_bitNumbered (Nat.le_trans (Nat.le_of_ble_eq_true rfl) hR1) (Nat.le_trans (Nat.le_of_ble_eq_true rfl) hR2) rfl rfl (Nat.le_of_ble_eq_true rfl) dWo_numbered_42 ?_
  refine ax_ior dWo_numbered_45 ?_
  cases hf
  exact Hr _ _ dWo_numbered_46
theorem c_Wo_numbered {l : Launch} {E : EN} {h0 : AH} {o : Nat} {p1 : Int32} {r : Int32} (hf : f_Wo_numbered h0 o p1 = some r) : AM l E 3 mi_Wo_numbered [va_rf (some o), .int p1] h0 (some (.int r)) h0 :=
  am_of2 [(va_rf (some o), false), (.int p1, false)] 3 ⟨cat_rf _, rfl, trivial⟩ rfl rfl (v_Wo_numbered (Nat.le_refl _) (Nat.le_refl _) (fun pc L hd => ax_iret rfl hd rfl) hf)
theorem v_C_world {l : Launch} {E : EN} {R : Room} {B : (Nat × Nat) × (Nat × Nat)} {Qf : QF} {h0 : AH} {o : Nat} {p1 : Int32} {r : Int32} (hR1 : 4 ≤ R.frames) (hR2 : 256 ≤ R.locals) (Hr : ∀ (pc : Nat) (L : List (Option Value)), decode mi_C_world.2.1 pc = .ok (.ireturn, 1) → AW l E mi_C_world R B Qf pc L [.int r] h0) (hf : f_C_world h0 o p1 = some r) : AW l E mi_C_world R B Qf 0 [some (va_rf (some o)), some (.int p1)] [] h0 := by
  unfold f_C_world at hf
  refine ax_aload_n (i := 0) (some o) dC_world_0 rfl rfl ?_
  replace hf := bd1_s hf
  obtain ⟨r1, e_r1, hf⟩ := hf
  refine ax_getR fl_331 rfl dC_world_1 e_r1 ?_
  replace hf := bd1_s hf
  obtain ⟨a2, e_d, hf⟩ := hf
  subst e_d
  replace hf := bd1_s hf
  obtain ⟨r3, e_r3, hf⟩ := hf
  obtain ⟨k_e_r3, e_r3⟩ := cv_s e_r3
  refine ax_callV (As := []) (rest := []) (c_Lo_last e_r3) ml_957 cm_Lo_last rfl k_e_r3 (Nat.le_trans (Nat.le_of_ble_eq_true rfl) hR1) (Nat.le_trans (Nat.le_of_ble_eq_true rfl) hR2) rfl rfl (Nat.le_of_ble_eq_true rfl) dC_world_4 ?_
  refine ax_iload_n (i := 1) dC_world_7 rfl rfl ?_
  replace hf := bd1_s hf
  obtain ⟨a4, e_d, hf⟩ := hf
  subst e_d
  replace hf := bd1_s hf
  obtain ⟨x5, e_x5, hf⟩ := hf
  obtain ⟨k_e_x5, e_x5⟩ := cv_s e_x5
  refine ax_callV (As := [.int p1]) (rest := []) (c_Wo_numbered e_x5) ml_973 cm_Wo_numbered rfl k_e_x5 (Nat.le_trans (Nat.le_of_ble_eq_true rfl) hR1) (Nat.le_trans (Nat.le_of_ble_eq_true rfl) hR2) rfl rfl (Nat.le_of_ble_eq_true rfl) dC_world_8 ?_
  cases hf
  exact Hr _ _ dC_world_11
theorem c_C_world {l : Launch} {E : EN} {h0 : AH} {o : Nat} {p1 : Int32} {r : Int32} (hf : f_C_world h0 o p1 = some r) : AM l E 4 mi_C_world [va_rf (some o), .int p1] h0 (some (.int r)) h0 :=
  am_of2 [(va_rf (some o), false), (.int p1, false)] 0 ⟨cat_rf _, rfl, trivial⟩ rfl rfl (v_C_world (Nat.le_refl _) (Nat.le_refl _) (fun pc L hd => ax_iret rfl hd rfl) hf)
theorem w_C_broken_L2 {l : Launch} {E : EN} {R : Room} {B : (Nat × Nat) × (Nat × Nat)} {Qf : QF} {h0 : AH} {r : Int32} (hR1 : 3 ≤ R.frames) (hR2 : 192 ≤ R.locals) (Hr : ∀ (pc : Nat) (L : List (Option Value)), decode mi_C_broken.2.1 pc = .ok (.ireturn, 1) → AW l E mi_C_broken R B Qf pc L [.int r] h0) {y0 : Nat} : ∀ (n : Nat) (z1 : Int32), f_C_broken_L2 h0 y0 n z1 = some r → AW l E mi_C_broken R B Qf 2 [some (va_rf (some y0)), some (.int z1)] [] h0 := by
  intro n
  induction n with
  | zero => intro z1 hf; cases hf
  | succ n ih =>
    intro z1 hf
    rw [f_C_broken_L2] at hf
    refine ax_iload_n (i := 1) dC_broken_2 rfl rfl ?_
    refine ax_aload_n (i := 0) (some y0) dC_broken_3 rfl rfl ?_
    replace hf := bd1_s hf
    obtain ⟨r1, e_r1, hf⟩ := hf
    refine ax_getR fl_331 rfl dC_broken_4 e_r1 ?_
    replace hf := bd1_s hf
    obtain ⟨a2, e_d, hf⟩ := hf
    subst e_d
    replace hf := bd1_s hf
    obtain ⟨x3, e_x3, hf⟩ := hf
    refine ax_getI fl_301 rfl dC_broken_7 e_x3 ?_
    replace hf := ite_c hf
    rcases hf with ⟨hc, hf⟩ | ⟨hc, hf⟩
    · refine ax_icmp_gtT 36 dC_broken_10 (by decide) hc ?_
      refine ax_iconst (0 : Int32) dC_broken_36 k32_0 ?_
      cases hf
      exact Hr _ _ dC_broken_37
    · refine ax_icmp_gtF 36 dC_broken_10 (by decide) hc ?_
      refine ax_aload_n (i := 0) (some y0) dC_broken_13 rfl rfl ?_
      replace hf := bd1_s hf
      obtain ⟨r4, e_r4, hf⟩ := hf
      refine ax_getR fl_331 rfl dC_broken_14 e_r4 ?_
      replace hf := bd1_s hf
      obtain ⟨a5, e_d, hf⟩ := hf
      subst e_d
      replace hf := bd1_s hf
      obtain ⟨r6, e_r6, hf⟩ := hf
      refine ax_getR fl_299 rfl dC_broken_17 e_r6 ?_
      refine ax_iload_n (i := 1) dC_broken_20 rfl rfl ?_
      replace hf := bd1_s hf
      obtain ⟨a7, e_d, hf⟩ := hf
      subst e_d
      replace hf := bd1_s hf
      obtain ⟨r8, e_r8, hf⟩ := hf
      refine ax_aald (c := 11) (by decide) rfl rfl dC_broken_21 e_r8 ?_
      replace hf := bd1_s hf
      obtain ⟨a9, e_d, hf⟩ := hf
      subst e_d
      replace hf := bd1_s hf
      obtain ⟨x10, e_x10, hf⟩ := hf
      obtain ⟨k_e_x10, e_x10⟩ := cv_s e_x10
      refine ax_callV (As := []) (rest := []) (c_Wo_size e_x10) ml_943 cm_Wo_size rfl k_e_x10 (Nat.le_trans (Nat.le_of_ble_eq_true rfl) hR1) (Nat.le_trans (Nat.le_of_ble_eq_true rfl) hR2) rfl rfl (Nat.le_of_ble_eq_true rfl) dC_broken_22 ?_
      replace hf := ite_c hf
      rcases hf with ⟨hc, hf⟩ | ⟨hc, hf⟩
      · refine ax_if_neF 30 dC_broken_25 (by decide) hc ?_
        refine ax_iload_n (i := 1) dC_broken_28 rfl rfl ?_
        cases hf
        exact Hr _ _ dC_broken_29
      · refine ax_if_neT 30 dC_broken_25 (by decide) hc ?_
        refine ax_iinc (i := 1) (z1 + (1 : Int32)) [some (va_rf (some y0)), some (.int (z1 + (1 : Int32)))] dC_broken_30 rfl (iic k32_1) (Or.inr (c1r rfl)) rfl ?_
        refine ax_goto 2 dC_broken_33 (by decide) ?_
        exact ih (z1 + (1 : Int32)) hf
theorem v_C_broken {l : Launch} {E : EN} {R : Room} {B : (Nat × Nat) × (Nat × Nat)} {Qf : QF} {h0 : AH} {o : Nat} {r : Int32} (hR1 : 3 ≤ R.frames) (hR2 : 192 ≤ R.locals) (Hr : ∀ (pc : Nat) (L : List (Option Value)), decode mi_C_broken.2.1 pc = .ok (.ireturn, 1) → AW l E mi_C_broken R B Qf pc L [.int r] h0) (hf : f_C_broken h0 o = some r) : AW l E mi_C_broken R B Qf 0 [some (va_rf (some o)), none] [] h0 := by
  unfold f_C_broken at hf
  refine ax_iconst (1 : Int32) dC_broken_0 k32_1 ?_
  refine ax_istore_n (i := 1) [some (va_rf (some o)), some (.int (1 : Int32))] dC_broken_1 rfl (Nat.le_of_ble_eq_true rfl) (Or.inr (c1r rfl)) rfl ?_
  refine w_C_broken_L2 hR1 hR2 Hr FU (1 : Int32) hf
theorem c_C_broken {l : Launch} {E : EN} {h0 : AH} {o : Nat} {r : Int32} (hf : f_C_broken h0 o = some r) : AM l E 3 mi_C_broken [va_rf (some o)] h0 (some (.int r)) h0 :=
  am_of2 [(va_rf (some o), false)] 1 ⟨cat_rf _, trivial⟩ rfl rfl (v_C_broken (Nat.le_refl _) (Nat.le_refl _) (fun pc L hd => ax_iret rfl hd rfl) hf)
theorem v_C_again {l : Launch} {E : EN} {R : Room} {B : (Nat × Nat) × (Nat × Nat)} {Qf : QF} {h0 : AH} {o : Nat} {p1 : Int32} {r : Int32} (hR1 : 4 ≤ R.frames) (hR2 : 256 ≤ R.locals) (Hr : ∀ (pc : Nat) (L : List (Option Value)), decode mi_C_again.2.1 pc = .ok (.ireturn, 1) → AW l E mi_C_again R B Qf pc L [.int r] h0) (hf : f_C_again h0 o p1 = some r) : AW l E mi_C_again R B Qf 0 [some (va_rf (some o)), some (.int p1), none, none, none, none] [] h0 := by
  unfold f_C_again at hf
  refine ax_aload_n (i := 0) (some o) dC_again_0 rfl rfl ?_
  replace hf := bd1_s hf
  obtain ⟨r1, e_r1, hf⟩ := hf
  refine ax_getR fl_329 rfl dC_again_1 e_r1 ?_
  refine ax_iload_n (i := 1) dC_again_4 rfl rfl ?_
  replace hf := bd1_s hf
  obtain ⟨a2, e_d, hf⟩ := hf
  subst e_d
  replace hf := bd1_s hf
  obtain ⟨r3, e_r3, hf⟩ := hf
  obtain ⟨k_e_r3, e_r3⟩ := cv_s e_r3
  refine ax_callV (As := [.int p1]) (rest := []) (c_Ro_helperNumbered e_r3) ml_718 cm_Ro_helperNumbered rfl k_e_r3 (Nat.le_trans (Nat.le_of_ble_eq_true rfl) hR1) (Nat.le_trans (Nat.le_of_ble_eq_true rfl) hR2) rfl rfl (Nat.le_of_ble_eq_true rfl) dC_again_5 ?_
  refine ax_astore_n (i := 2) (r := r3) [some (va_rf (some o)), some (.int p1), some (va_rf r3), none, none, none] dC_again_8 rfl (Nat.le_of_ble_eq_true rfl) (Or.inr (c1i rfl)) rfl ?_
  refine ax_aload_n (i := 2) r3 dC_again_9 rfl rfl ?_
  replace hf := onl_s hf
  rcases hf with ⟨e_d, hf⟩ | ⟨a4, e_d, hf⟩
  · subst e_d
    refine ax_ifnonnullF dC_again_10 ?_
    refine ax_bipush (-101 : Int32) dC_again_13 k8_m101 ?_
    cases hf
    exact Hr _ _ dC_again_15
  · subst e_d
    refine ax_ifnonnullT 16 dC_again_10 (by decide) ?_
    refine ax_aload_n (i := 0) (some o) dC_again_16 rfl rfl ?_
    replace hf := bd1_s hf
    obtain ⟨r5, e_r5, hf⟩ := hf
    refine ax_getR fl_331 rfl dC_again_17 e_r5 ?_
    replace hf := bd1_s hf
    obtain ⟨a6, e_d, hf⟩ := hf
    subst e_d
    replace hf := bd1_s hf
    obtain ⟨r7, e_r7, hf⟩ := hf
    obtain ⟨k_e_r7, e_r7⟩ := cv_s e_r7
    refine ax_callV (As := []) (rest := []) (c_Lo_last e_r7) ml_957 cm_Lo_last rfl k_e_r7 (Nat.le_trans (Nat.le_of_ble_eq_true rfl) hR1) (Nat.le_trans (Nat.le_of_ble_eq_true rfl) hR2) rfl rfl (Nat.le_of_ble_eq_true rfl) dC_again_20 ?_
    refine ax_astore_n (i := 3) (r := r7) [some (va_rf (some o)), some (.int p1), some (va_rf (some a4)), some (va_rf r7), none, none] dC_again_23 rfl (Nat.le_of_ble_eq_true rfl) (Or.inr (c1r rfl)) rfl ?_
    refine ax_aload_n (i := 3) r7 dC_again_24 rfl rfl ?_
    replace hf := bd1_s hf
    obtain ⟨a8, e_d, hf⟩ := hf
    subst e_d
    replace hf := bd1_s hf
    obtain ⟨x9, e_x9, hf⟩ := hf
    obtain ⟨k_e_x9, e_x9⟩ := cv_s e_x9
    refine ax_callV (As := []) (rest := []) (c_Wo_size e_x9) ml_943 cm_Wo_size rfl k_e_x9 (Nat.le_trans (Nat.le_of_ble_eq_true rfl) hR1) (Nat.le_trans (Nat.le_of_ble_eq_true rfl) hR2) rfl rfl (Nat.le_of_ble_eq_true rfl) dC_again_25 ?_
    replace hf := ite_c hf
    rcases hf with ⟨hc, hf⟩ | ⟨hc, hf⟩
    · refine ax_if_neF 34 dC_again_28 (by decide) hc ?_
      refine ax_bipush (-103 : Int32) dC_again_31 k8_m103 ?_
      cases hf
      exact Hr _ _ dC_again_33
    · refine ax_if_neT 34 dC_again_28 (by decide) hc ?_
      refine ax_aload_n (i := 2) (some a4) dC_again_34 rfl rfl ?_
      replace hf := bd1_s hf
      obtain ⟨r10, e_r10, hf⟩ := hf
      refine ax_getR fl_706 rfl dC_again_35 e_r10 ?_
      refine ax_iconst (5 : Int32) dC_again_38 k32_5 ?_
      replace hf := bd1_s hf
      obtain ⟨a11, e_d, hf⟩ := hf
      subst e_d
      replace hf := bd1_s hf
      obtain ⟨x12, e_x12, hf⟩ := hf
      refine ax_iald dC_again_39 e_x12 ?_
      refine ax_aload_n (i := 2) (some a4) dC_again_40 rfl rfl ?_
      replace hf := bd1_s hf
      obtain ⟨r13, e_r13, hf⟩ := hf
      refine ax_getR fl_706 rfl dC_again_41 e_r13 ?_
      refine ax_bipush (6 : Int32) dC_again_44 k8_6 ?_
      replace hf := bd1_s hf
      obtain ⟨a14, e_d, hf⟩ := hf
      subst e_d
      replace hf := bd1_s hf
      obtain ⟨x15, e_x15, hf⟩ := hf
      refine ax_iald dC_again_46 e_x15 ?_
      refine ax_ior dC_again_47 ?_
      replace hf := bd1_s hf
      obtain ⟨x16, e_x16, hf⟩ := hf
      refine ax_nmI (Option.some.inj e_x16) ?_
      refine ax_istore (i := 4) [some (va_rf (some o)), some (.int p1), some (va_rf (some a4)), some (va_rf (some a8)), some (.int x16), none] dC_again_48 (Nat.le_of_ble_eq_true rfl) (Or.inr (c1r rfl)) rfl ?_
      refine ax_aload_n (i := 2) (some a4) dC_again_50 rfl rfl ?_
      replace hf := bd1_s hf
      obtain ⟨r17, e_r17, hf⟩ := hf
      refine ax_getR fl_706 rfl dC_again_51 e_r17 ?_
      refine ax_bipush (7 : Int32) dC_again_54 k8_7 ?_
      replace hf := bd1_s hf
      obtain ⟨a18, e_d, hf⟩ := hf
      subst e_d
      replace hf := bd1_s hf
      obtain ⟨x19, e_x19, hf⟩ := hf
      refine ax_iald dC_again_56 e_x19 ?_
      refine ax_aload_n (i := 2) (some a4) dC_again_57 rfl rfl ?_
      replace hf := bd1_s hf
      obtain ⟨r20, e_r20, hf⟩ := hf
      refine ax_getR fl_706 rfl dC_again_58 e_r20 ?_
      refine ax_bipush (6 : Int32) dC_again_61 k8_6 ?_
      replace hf := bd1_s hf
      obtain ⟨a21, e_d, hf⟩ := hf
      subst e_d
      replace hf := bd1_s hf
      obtain ⟨x22, e_x22, hf⟩ := hf
      refine ax_iald dC_again_63 e_x22 ?_
      refine ax_iconst (-1 : Int32) dC_again_64 k32_m1 ?_
      refine ax_ixor dC_again_65 ?_
      refine ax_iand dC_again_66 ?_
      replace hf := bd1_s hf
      obtain ⟨x23, e_x23, hf⟩ := hf
      refine ax_nmI (Option.some.inj e_x23) ?_
      refine ax_istore (i := 5) [some (va_rf (some o)), some (.int p1), some (va_rf (some a4)), some (va_rf (some a8)), some (.int x16), some (.int x23)] dC_again_67 (Nat.le_of_ble_eq_true rfl) (Or.inr (c1i rfl)) rfl ?_
      refine ax_iload (i := 4) dC_again_69 rfl ?_
      refine ax_aload_n (i := 3) (some a8) dC_again_71 rfl rfl ?_
      replace hf := bd1_s hf
      obtain ⟨x24, e_x24, hf⟩ := hf
      obtain ⟨k_e_x24, e_x24⟩ := cv_s e_x24
      refine ax_callV (As := []) (rest := [.int x16]) (c_Wo_heldInAll e_x24) ml_961 cm_Wo_heldInAll rfl k_e_x24 (Nat.le_trans (Nat.le_of_ble_eq_true rfl) hR1) (Nat.le_trans (Nat.le_of_ble_eq_true rfl) hR2) rfl rfl (Nat.le_of_ble_eq_true rfl) dC_again_72 ?_
      refine ax_iconst (-1 : Int32) dC_again_75 k32_m1 ?_
      refine ax_ixor dC_again_76 ?_
      refine ax_iand dC_again_77 ?_
      replace hf := ite_c hf
      rcases hf with ⟨hc, hf⟩ | ⟨hc, hf⟩
      · refine ax_if_neF 95 dC_again_78 (by decide) hc ?_
        refine ax_iload (i := 5) dC_again_81 rfl ?_
        refine ax_aload_n (i := 3) (some a8) dC_again_83 rfl rfl ?_
        replace hf := bd1_s hf
        obtain ⟨x25, e_x25, hf⟩ := hf
        obtain ⟨k_e_x25, e_x25⟩ := cv_s e_x25
        refine ax_callV (As := []) (rest := [.int x23]) (c_Wo_heldInSome e_x25) ml_965 cm_Wo_heldInSome rfl k_e_x25 (Nat.le_trans (Nat.le_of_ble_eq_true rfl) hR1) (Nat.le_trans (Nat.le_of_ble_eq_true rfl) hR2) rfl rfl (Nat.le_of_ble_eq_true rfl) dC_again_84 ?_
        refine ax_iand dC_again_87 ?_
        replace hf := ite_c hf
        rcases hf with ⟨hc, hf⟩ | ⟨hc, hf⟩
        · refine ax_if_neF 95 dC_again_88 (by decide) hc ?_
          refine ax_iconst (1 : Int32) dC_again_91 k32_1 ?_
          refine ax_goto 96 dC_again_92 (by decide) ?_
          cases hf
          exact Hr _ _ dC_again_96
        · refine ax_if_neT 95 dC_again_88 (by decide) hc ?_
          refine ax_iconst (0 : Int32) dC_again_95 k32_0 ?_
          cases hf
          exact Hr _ _ dC_again_96
      · refine ax_if_neT 95 dC_again_78 (by decide) hc ?_
        refine ax_iconst (0 : Int32) dC_again_95 k32_0 ?_
        cases hf
        exact Hr _ _ dC_again_96
theorem c_C_again {l : Launch} {E : EN} {h0 : AH} {o : Nat} {p1 : Int32} {r : Int32} (hf : f_C_again h0 o p1 = some r) : AM l E 4 mi_C_again [va_rf (some o), .int p1] h0 (some (.int r)) h0 :=
  am_of2 [(va_rf (some o), false), (.int p1, false)] 4 ⟨cat_rf _, rfl, trivial⟩ rfl rfl (v_C_again (Nat.le_refl _) (Nat.le_refl _) (fun pc L hd => ax_iret rfl hd rfl) hf)
theorem v_C_count {l : Launch} {E : EN} {R : Room} {B : (Nat × Nat) × (Nat × Nat)} {Qf : QF} {h0 : AH} {o : Nat} {p1 : Int32} {r : Int32} (hR1 : 1 ≤ R.frames) (hR2 : 64 ≤ R.locals) (Hr : ∀ (pc : Nat) (L : List (Option Value)), decode mi_C_count.2.1 pc = .ok (.ireturn, 1) → AW l E mi_C_count R B Qf pc L [.int r] h0) (hf : f_C_count h0 o p1 = some r) : AW l E mi_C_count R B Qf 0 [some (va_rf (some o)), some (.int p1)] [] h0 := by
  unfold f_C_count at hf
  refine ax_iload_n (i := 1) dC_count_0 rfl rfl ?_
  replace hf := ite_c hf
  rcases hf with ⟨hc, hf⟩ | ⟨hn0, hf⟩
  · refine ax_tsIn 48 dC_count_1 0 (by rw [hc]; decide) (by decide) rfl (by decide) ?_
    refine ax_aload_n (i := 0) (some o) dC_count_48 rfl rfl ?_
    replace hf := bd1_s hf
    obtain ⟨x16, e_x16, hf⟩ := hf
    refine ax_getI fl_323 rfl dC_count_49 e_x16 ?_
    cases hf
    exact Hr _ _ dC_count_52
  replace hf := ite_c hf
  rcases hf with ⟨hc, hf⟩ | ⟨hn1, hf⟩
  · refine ax_tsIn 53 dC_count_1 1 (by rw [hc]; decide) (by decide) rfl (by decide) ?_
    refine ax_aload_n (i := 0) (some o) dC_count_53 rfl rfl ?_
    replace hf := bd1_s hf
    obtain ⟨r13, e_r13, hf⟩ := hf
    refine ax_getR fl_321 rfl dC_count_54 e_r13 ?_
    replace hf := bd1_s hf
    obtain ⟨a14, e_d, hf⟩ := hf
    subst e_d
    replace hf := bd1_s hf
    obtain ⟨x15, e_x15, hf⟩ := hf
    refine ax_getI fl_80 rfl dC_count_57 e_x15 ?_
    cases hf
    exact Hr _ _ dC_count_60
  replace hf := ite_c hf
  rcases hf with ⟨hc, hf⟩ | ⟨hn2, hf⟩
  · refine ax_tsIn 61 dC_count_1 2 (by rw [hc]; decide) (by decide) rfl (by decide) ?_
    refine ax_aload_n (i := 0) (some o) dC_count_61 rfl rfl ?_
    replace hf := bd1_s hf
    obtain ⟨r10, e_r10, hf⟩ := hf
    refine ax_getR fl_329 rfl dC_count_62 e_r10 ?_
    replace hf := bd1_s hf
    obtain ⟨a11, e_d, hf⟩ := hf
    subst e_d
    replace hf := bd1_s hf
    obtain ⟨x12, e_x12, hf⟩ := hf
    refine ax_getI fl_239 rfl dC_count_65 e_x12 ?_
    cases hf
    exact Hr _ _ dC_count_68
  replace hf := ite_c hf
  rcases hf with ⟨hc, hf⟩ | ⟨hn3, hf⟩
  · refine ax_tsIn 69 dC_count_1 3 (by rw [hc]; decide) (by decide) rfl (by decide) ?_
    refine ax_aload_n (i := 0) (some o) dC_count_69 rfl rfl ?_
    replace hf := bd1_s hf
    obtain ⟨r7, e_r7, hf⟩ := hf
    refine ax_getR fl_331 rfl dC_count_70 e_r7 ?_
    replace hf := bd1_s hf
    obtain ⟨a8, e_d, hf⟩ := hf
    subst e_d
    replace hf := bd1_s hf
    obtain ⟨x9, e_x9, hf⟩ := hf
    refine ax_getI fl_301 rfl dC_count_73 e_x9 ?_
    cases hf
    exact Hr _ _ dC_count_76
  replace hf := ite_c hf
  rcases hf with ⟨hc, hf⟩ | ⟨hn4, hf⟩
  · refine ax_tsIn 77 dC_count_1 4 (by rw [hc]; decide) (by decide) rfl (by decide) ?_
    refine ax_aload_n (i := 0) (some o) dC_count_77 rfl rfl ?_
    replace hf := bd1_s hf
    obtain ⟨x6, e_x6, hf⟩ := hf
    refine ax_getI fl_327 rfl dC_count_78 e_x6 ?_
    cases hf
    exact Hr _ _ dC_count_81
  replace hf := ite_c hf
  rcases hf with ⟨hc, hf⟩ | ⟨hn5, hf⟩
  · refine ax_tsIn 82 dC_count_1 5 (by rw [hc]; decide) (by decide) rfl (by decide) ?_
    refine ax_aload_n (i := 0) (some o) dC_count_82 rfl rfl ?_
    replace hf := bd1_s hf
    obtain ⟨x5, e_x5, hf⟩ := hf
    refine ax_getI fl_328 rfl dC_count_83 e_x5 ?_
    cases hf
    exact Hr _ _ dC_count_86
  replace hf := ite_c hf
  rcases hf with ⟨hc, hf⟩ | ⟨hn6, hf⟩
  · refine ax_tsIn 87 dC_count_1 6 (by rw [hc]; decide) (by decide) rfl (by decide) ?_
    refine ax_aload_n (i := 0) (some o) dC_count_87 rfl rfl ?_
    replace hf := bd1_s hf
    obtain ⟨x4, e_x4, hf⟩ := hf
    refine ax_getI fl_330 rfl dC_count_88 e_x4 ?_
    cases hf
    exact Hr _ _ dC_count_91
  replace hf := ite_c hf
  rcases hf with ⟨hc, hf⟩ | ⟨hn7, hf⟩
  · refine ax_tsIn 92 dC_count_1 7 (by rw [hc]; decide) (by decide) rfl (by decide) ?_
    refine ax_aload_n (i := 0) (some o) dC_count_92 rfl rfl ?_
    replace hf := bd1_s hf
    obtain ⟨r1, e_r1, hf⟩ := hf
    refine ax_getR fl_329 rfl dC_count_93 e_r1 ?_
    replace hf := bd1_s hf
    obtain ⟨a2, e_d, hf⟩ := hf
    subst e_d
    replace hf := bd1_s hf
    obtain ⟨x3, e_x3, hf⟩ := hf
    refine ax_getI fl_245 rfl dC_count_96 e_x3 ?_
    cases hf
    exact Hr _ _ dC_count_99
  refine ax_tsOut 100 dC_count_1 (ts_out 7 (by decide) (fun j hj => match j, hj with | 0, _ => hn0 | 1, _ => hn1 | 2, _ => hn2 | 3, _ => hn3 | 4, _ => hn4 | 5, _ => hn5 | 6, _ => hn6 | 7, _ => hn7 | (n + 8), hj => absurd hj (by omega))) (by decide) ?_
  refine ax_bipush (-102 : Int32) dC_count_100 k8_m102 ?_
  cases hf
  exact Hr _ _ dC_count_102
theorem c_C_count {l : Launch} {E : EN} {h0 : AH} {o : Nat} {p1 : Int32} {r : Int32} (hf : f_C_count h0 o p1 = some r) : AM l E 1 mi_C_count [va_rf (some o), .int p1] h0 (some (.int r)) h0 :=
  am_of2 [(va_rf (some o), false), (.int p1, false)] 0 ⟨cat_rf _, rfl, trivial⟩ rfl rfl (v_C_count (Nat.le_refl _) (Nat.le_refl _) (fun pc L hd => ax_iret rfl hd rfl) hf)
theorem w_C_mixed_L3 {l : Launch} {E : EN} {R : Room} {B : (Nat × Nat) × (Nat × Nat)} {Qf : QF} {h0 : AH} {r : Int64} (hR1 : 1 ≤ R.frames) (hR2 : 64 ≤ R.locals) (Hr : ∀ (pc : Nat) (L : List (Option Value)), decode mi_C_mixed.2.1 pc = .ok (.lreturn, 1) → AW l E mi_C_mixed R B Qf pc L [.long r] h0) {y2 : Option Nat} {y3 : Int32} : ∀ (n : Nat) (z0 : Int64) (z4 : Int32), f_C_mixed_L3 h0 y2 y3 n z0 z4 = some r → AW l E mi_C_mixed R B Qf 3 [some (.long z0), none, some (va_rf y2), some (.int y3), some (.int z4)] [] h0 := by
  intro n
  induction n with
  | zero => intro z0 z4 hf; cases hf
  | succ n ih =>
    intro z0 z4 hf
    rw [f_C_mixed_L3] at hf
    refine ax_iload (i := 4) dC_mixed_3 rfl ?_
    refine ax_iload_n (i := 3) dC_mixed_5 rfl rfl ?_
    replace hf := ite_c hf
    rcases hf with ⟨hc, hf⟩ | ⟨hc, hf⟩
    · refine ax_icmp_geF 34 dC_mixed_6 (by decide) hc ?_
      refine ax_iload (i := 4) dC_mixed_9 rfl ?_
      refine ax_aload_n (i := 2) y2 dC_mixed_11 rfl rfl ?_
      replace hf := bd1_s hf
      obtain ⟨a1, e_d, hf⟩ := hf
      subst e_d
      replace hf := bd1_s hf
      obtain ⟨x2, e_x2, hf⟩ := hf
      refine ax_alen (d := 1) (by decide) rfl dC_mixed_12 e_x2 ?_
      replace hf := ite_c hf
      rcases hf with ⟨hc, hf⟩ | ⟨hc, hf⟩
      · refine ax_icmp_geF 34 dC_mixed_13 (by decide) hc ?_
        refine ax_ldc2 w_1000 dC_mixed_16 ?_
        refine ax_lload_n (i := 0) dC_mixed_19 rfl rfl ?_
        refine ax_lmul dC_mixed_20 ?_
        refine ax_aload_n (i := 2) (some a1) dC_mixed_21 rfl rfl ?_
        refine ax_iload (i := 4) dC_mixed_22 rfl ?_
        replace hf := bd1_s hf
        obtain ⟨x3, e_x3, hf⟩ := hf
        refine ax_iald dC_mixed_24 e_x3 ?_
        refine ax_i2l dC_mixed_25 ?_
        refine ax_ladd dC_mixed_26 ?_
        replace hf := bd1_s hf
        obtain ⟨x4, e_x4, hf⟩ := hf
        refine ax_nmJ (Option.some.inj e_x4) ?_
        refine ax_lstore_n (i := 0) [some (.long x4), none, some (va_rf (some a1)), some (.int y3), some (.int z4)] dC_mixed_27 rfl (Nat.le_of_ble_eq_true rfl) (Or.inl rfl) rfl ?_
        refine ax_iinc (i := 4) (z4 + (1 : Int32)) [some (.long x4), none, some (va_rf (some a1)), some (.int y3), some (.int (z4 + (1 : Int32)))] dC_mixed_28 rfl (iic k32_1) (Or.inr (c1i rfl)) rfl ?_
        refine ax_goto 3 dC_mixed_31 (by decide) ?_
        exact ih x4 (z4 + (1 : Int32)) hf
      · refine ax_icmp_geT 34 dC_mixed_13 (by decide) hc ?_
        refine ax_lload_n (i := 0) dC_mixed_34 rfl rfl ?_
        cases hf
        exact Hr _ _ dC_mixed_35
    · refine ax_icmp_geT 34 dC_mixed_6 (by decide) hc ?_
      refine ax_lload_n (i := 0) dC_mixed_34 rfl rfl ?_
      cases hf
      exact Hr _ _ dC_mixed_35
theorem v_C_mixed {l : Launch} {E : EN} {R : Room} {B : (Nat × Nat) × (Nat × Nat)} {Qf : QF} {h0 : AH} {p1 : Int64} {p2 : Option Nat} {p3 : Int32} {r : Int64} (hR1 : 1 ≤ R.frames) (hR2 : 64 ≤ R.locals) (Hr : ∀ (pc : Nat) (L : List (Option Value)), decode mi_C_mixed.2.1 pc = .ok (.lreturn, 1) → AW l E mi_C_mixed R B Qf pc L [.long r] h0) (hf : f_C_mixed h0 p1 p2 p3 = some r) : AW l E mi_C_mixed R B Qf 0 [some (.long p1), none, some (va_rf p2), some (.int p3), none] [] h0 := by
  unfold f_C_mixed at hf
  refine ax_iconst (0 : Int32) dC_mixed_0 k32_0 ?_
  refine ax_istore (i := 4) [some (.long p1), none, some (va_rf p2), some (.int p3), some (.int (0 : Int32))] dC_mixed_1 (Nat.le_of_ble_eq_true rfl) (Or.inr (c1i rfl)) rfl ?_
  refine w_C_mixed_L3 hR1 hR2 Hr FU p1 (0 : Int32) hf
theorem c_C_mixed {l : Launch} {E : EN} {h0 : AH} {p1 : Int64} {p2 : Option Nat} {p3 : Int32} {r : Int64} (hf : f_C_mixed h0 p1 p2 p3 = some r) : AM l E 1 mi_C_mixed [.long p1, va_rf p2, .int p3] h0 (some (.long r)) h0 :=
  am_of2 [(.long p1, true), (va_rf p2, false), (.int p3, false)] 1 ⟨rfl, cat_rf _, rfl, trivial⟩ rfl rfl (v_C_mixed (Nat.le_refl _) (Nat.le_refl _) (fun pc L hd => ax_lret rfl hd rfl) hf)
theorem w_Ta_mixedInto_L46 {l : Launch} {E : EN} {R : Room} {B : (Nat × Nat) × (Nat × Nat)} {Qf : QF} {h0 : AH} {ρ : Type} {res : ρ} (hR1 : 2 ≤ R.frames) (hR2 : 128 ≤ R.locals) {y0 : Nat} {y3 : Int32} {k : Int64 → Option (ρ)} (hk : ∀ (z1 : Int64), k z1 = some res → AW l E mi_Ta_mixedInto R B Qf 79 [some (va_rf (some y0)), some (.long z1), none, some (.int y3), none] [] h0) : ∀ (n : Nat) (z1 : Int64) (z4 : Int32), f_Ta_mixedInto_L46 h0 y0 y3 k n z1 z4 = some res → AW l E mi_Ta_mixedInto R B Qf 46 [some (va_rf (some y0)), some (.long z1), none, some (.int y3), some (.int z4)] [] h0 := by
  intro n
  induction n with
  | zero => intro z1 z4 hf; cases hf
  | succ n ih =>
    intro z1 z4 hf
    rw [f_Ta_mixedInto_L46] at hf
    refine ax_iload (i := 4) dTa_mixedInto_46 rfl ?_
    refine ax_bipush (16 : Int32) dTa_mixedInto_48 k8_16 ?_
    replace hf := ite_c hf
    rcases hf with ⟨hc, hf⟩ | ⟨hc, hf⟩
    · refine ax_icmp_geF 79 dTa_mixedInto_50 (by decide) hc ?_
      refine ax_ldc2 w_1005 dTa_mixedInto_53 ?_
      refine ax_lload_n (i := 1) dTa_mixedInto_56 rfl rfl ?_
      refine ax_lmul dTa_mixedInto_57 ?_
      refine ax_aload_n (i := 0) (some y0) dTa_mixedInto_58 rfl rfl ?_
      replace hf := bd1_s hf
      obtain ⟨r7, e_r7, hf⟩ := hf
      refine ax_getR fl_475 rfl dTa_mixedInto_59 e_r7 ?_
      refine ax_iload_n (i := 3) dTa_mixedInto_62 rfl rfl ?_
      refine ax_bipush (16 : Int32) dTa_mixedInto_63 k8_16 ?_
      refine ax_imul dTa_mixedInto_65 ?_
      refine ax_iload (i := 4) dTa_mixedInto_66 rfl ?_
      refine ax_iadd dTa_mixedInto_68 ?_
      replace hf := bd1_s hf
      obtain ⟨a8, e_d, hf⟩ := hf
      subst e_d
      replace hf := bd1_s hf
      obtain ⟨x9, e_x9, hf⟩ := hf
      refine ax_iald dTa_mixedInto_69 e_x9 ?_
      refine ax_i2l dTa_mixedInto_70 ?_
      refine ax_ladd dTa_mixedInto_71 ?_
      replace hf := bd1_s hf
      obtain ⟨x10, e_x10, hf⟩ := hf
      refine ax_nmJ (Option.some.inj e_x10) ?_
      refine ax_lstore_n (i := 1) [some (va_rf (some y0)), some (.long x10), none, some (.int y3), some (.int z4)] dTa_mixedInto_72 rfl (Nat.le_of_ble_eq_true rfl) (Or.inr (c1r rfl)) rfl ?_
      refine ax_iinc (i := 4) (z4 + (1 : Int32)) [some (va_rf (some y0)), some (.long x10), none, some (.int y3), some (.int (z4 + (1 : Int32)))] dTa_mixedInto_73 rfl (iic k32_1) (Or.inr (c1i rfl)) rfl ?_
      refine ax_goto 46 dTa_mixedInto_76 (by decide) ?_
      exact ih x10 (z4 + (1 : Int32)) hf
    · refine ax_icmp_geT 79 dTa_mixedInto_50 (by decide) hc ?_
      refine ax_mask [true, true, true, true, false] rfl [some (va_rf (some y0)), some (.long z1), none, some (.int y3), none] rfl ?_
      exact hk z1 hf
theorem w_Ta_mixedInto_L14 {l : Launch} {E : EN} {R : Room} {B : (Nat × Nat) × (Nat × Nat)} {Qf : QF} {h0 : AH} {r : Int64} (hR1 : 2 ≤ R.frames) (hR2 : 128 ≤ R.locals) (Hr : ∀ (pc : Nat) (L : List (Option Value)), decode mi_Ta_mixedInto.2.1 pc = .ok (.lreturn, 1) → AW l E mi_Ta_mixedInto R B Qf pc L [.long r] h0) {y0 : Nat} : ∀ (n : Nat) (z1 : Int64) (z3 : Int32), f_Ta_mixedInto_L14 h0 y0 n z1 z3 = some r → AW l E mi_Ta_mixedInto R B Qf 14 [some (va_rf (some y0)), some (.long z1), none, some (.int z3), none] [] h0 := by
  intro n
  induction n with
  | zero => intro z1 z3 hf; cases hf
  | succ n ih =>
    intro z1 z3 hf
    rw [f_Ta_mixedInto_L14] at hf
    refine ax_iload_n (i := 3) dTa_mixedInto_14 rfl rfl ?_
    refine ax_aload_n (i := 0) (some y0) dTa_mixedInto_15 rfl rfl ?_
    replace hf := bd1_s hf
    obtain ⟨x3, e_x3, hf⟩ := hf
    refine ax_getI fl_471 rfl dTa_mixedInto_16 e_x3 ?_
    replace hf := ite_c hf
    rcases hf with ⟨hc, hf⟩ | ⟨hc, hf⟩
    · refine ax_icmp_gtT 85 dTa_mixedInto_19 (by decide) hc ?_
      refine ax_lload_n (i := 1) dTa_mixedInto_85 rfl rfl ?_
      cases hf
      exact Hr _ _ dTa_mixedInto_86
    · refine ax_icmp_gtF 85 dTa_mixedInto_19 (by decide) hc ?_
      refine ax_ldc2 w_1005 dTa_mixedInto_22 ?_
      refine ax_lload_n (i := 1) dTa_mixedInto_25 rfl rfl ?_
      refine ax_lmul dTa_mixedInto_26 ?_
      refine ax_aload_n (i := 0) (some y0) dTa_mixedInto_27 rfl rfl ?_
      refine ax_iload_n (i := 3) dTa_mixedInto_28 rfl rfl ?_
      replace hf := bd1_s hf
      obtain ⟨x4, e_x4, hf⟩ := hf
      obtain ⟨k_e_x4, e_x4⟩ := cv_s e_x4
      refine ax_callV (As := [.int z3]) (rest := [.long ((31 : Int64) * z1)]) (c_Ta_mayEnd e_x4) ml_1006 cm_Ta_mayEnd rfl k_e_x4 (Nat.le_trans (Nat.le_of_ble_eq_true rfl) hR1) (Nat.le_trans (Nat.le_of_ble_eq_true rfl) hR2) rfl rfl (Nat.le_of_ble_eq_true rfl) dTa_mixedInto_29 ?_
      replace hf := bd1_s hf
      obtain ⟨x5, hT, hf⟩ := hf
      have K : AW l E mi_Ta_mixedInto R B Qf 40 [some (va_rf (some y0)), none, none, some (.int z3), none] [.int x5, .long ((31 : Int64) * z1)] h0 := by
        clear hT
        refine ax_i2l dTa_mixedInto_40 ?_
        refine ax_ladd dTa_mixedInto_41 ?_
        replace hf := bd1_s hf
        obtain ⟨x6, e_x6, hf⟩ := hf
        refine ax_nmJ (Option.some.inj e_x6) ?_
        refine ax_lstore_n (i := 1) [some (va_rf (some y0)), some (.long x6), none, some (.int z3), none] dTa_mixedInto_42 rfl (Nat.le_of_ble_eq_true rfl) (Or.inr (c1r rfl)) rfl ?_
        refine ax_iconst (0 : Int32) dTa_mixedInto_43 k32_0 ?_
        refine ax_istore (i := 4) [some (va_rf (some y0)), some (.long x6), none, some (.int z3), some (.int (0 : Int32))] dTa_mixedInto_44 (Nat.le_of_ble_eq_true rfl) (Or.inr (c1i rfl)) rfl ?_
        refine w_Ta_mixedInto_L46 hR1 hR2 (fun x11 hf => ?_) FU x6 (0 : Int32) hf
        refine ax_iinc (i := 3) (z3 + (1 : Int32)) [some (va_rf (some y0)), some (.long x11), none, some (.int (z3 + (1 : Int32))), none] dTa_mixedInto_79 rfl (iic k32_1) (Or.inr (c1n rfl)) rfl ?_
        refine ax_goto 14 dTa_mixedInto_82 (by decide) ?_
        exact ih x11 (z3 + (1 : Int32)) hf
      replace hf := hT
      clear hT
      replace hf := ite_c hf
      rcases hf with ⟨hc, hf⟩ | ⟨hc, hf⟩
      · refine ax_if_eqT 39 dTa_mixedInto_32 (by decide) hc ?_
        refine ax_iconst (0 : Int32) dTa_mixedInto_39 k32_0 ?_
        refine ax_mask [true, false, true, true, true] rfl [some (va_rf (some y0)), none, none, some (.int z3), none] rfl ?_
        cases hf
        exact K
      · refine ax_if_eqF 39 dTa_mixedInto_32 (by decide) hc ?_
        refine ax_iconst (1 : Int32) dTa_mixedInto_35 k32_1 ?_
        refine ax_goto 40 dTa_mixedInto_36 (by decide) ?_
        refine ax_mask [true, false, true, true, true] rfl [some (va_rf (some y0)), none, none, some (.int z3), none] rfl ?_
        cases hf
        exact K
theorem v_Ta_mixedInto {l : Launch} {E : EN} {R : Room} {B : (Nat × Nat) × (Nat × Nat)} {Qf : QF} {h0 : AH} {o : Nat} {p1 : Int64} {r : Int64} (hR1 : 2 ≤ R.frames) (hR2 : 128 ≤ R.locals) (Hr : ∀ (pc : Nat) (L : List (Option Value)), decode mi_Ta_mixedInto.2.1 pc = .ok (.lreturn, 1) → AW l E mi_Ta_mixedInto R B Qf pc L [.long r] h0) (hf : f_Ta_mixedInto h0 o p1 = some r) : AW l E mi_Ta_mixedInto R B Qf 0 [some (va_rf (some o)), some (.long p1), none, none, none] [] h0 := by
  unfold f_Ta_mixedInto at hf
  refine ax_ldc2 w_1005 dTa_mixedInto_0 ?_
  refine ax_lload_n (i := 1) dTa_mixedInto_3 rfl rfl ?_
  refine ax_lmul dTa_mixedInto_4 ?_
  refine ax_aload_n (i := 0) (some o) dTa_mixedInto_5 rfl rfl ?_
  replace hf := bd1_s hf
  obtain ⟨x1, e_x1, hf⟩ := hf
  refine ax_getI fl_471 rfl dTa_mixedInto_6 e_x1 ?_
  refine ax_i2l dTa_mixedInto_9 ?_
  refine ax_ladd dTa_mixedInto_10 ?_
  replace hf := bd1_s hf
  obtain ⟨x2, e_x2, hf⟩ := hf
  refine ax_nmJ (Option.some.inj e_x2) ?_
  refine ax_lstore_n (i := 1) [some (va_rf (some o)), some (.long x2), none, none, none] dTa_mixedInto_11 rfl (Nat.le_of_ble_eq_true rfl) (Or.inr (c1r rfl)) rfl ?_
  refine ax_iconst (0 : Int32) dTa_mixedInto_12 k32_0 ?_
  refine ax_istore_n (i := 3) [some (va_rf (some o)), some (.long x2), none, some (.int (0 : Int32)), none] dTa_mixedInto_13 rfl (Nat.le_of_ble_eq_true rfl) (Or.inr (c1n rfl)) rfl ?_
  refine w_Ta_mixedInto_L14 hR1 hR2 Hr FU x2 (0 : Int32) hf
theorem c_Ta_mixedInto {l : Launch} {E : EN} {h0 : AH} {o : Nat} {p1 : Int64} {r : Int64} (hf : f_Ta_mixedInto h0 o p1 = some r) : AM l E 2 mi_Ta_mixedInto [va_rf (some o), .long p1] h0 (some (.long r)) h0 :=
  am_of2 [(va_rf (some o), false), (.long p1, true)] 2 ⟨cat_rf _, rfl, trivial⟩ rfl rfl (v_Ta_mixedInto (Nat.le_refl _) (Nat.le_refl _) (fun pc L hd => ax_lret rfl hd rfl) hf)
theorem w_C_digest_L25 {l : Launch} {E : EN} {R : Room} {B : (Nat × Nat) × (Nat × Nat)} {Qf : QF} {h0 : AH} {ρ : Type} {res : ρ} (hR1 : 3 ≤ R.frames) (hR2 : 192 ≤ R.locals) {y0 : Nat} {k : Int64 → Option (ρ)} (hk : ∀ (z1 : Int64), k z1 = some res → AW l E mi_C_digest R B Qf 50 [some (va_rf (some y0)), some (.long z1), none, none] [] h0) : ∀ (n : Nat) (z1 : Int64) (z3 : Int32), f_C_digest_L25 h0 y0 k n z1 z3 = some res → AW l E mi_C_digest R B Qf 25 [some (va_rf (some y0)), some (.long z1), none, some (.int z3)] [] h0 := by
  intro n
  induction n with
  | zero => intro z1 z3 hf; cases hf
  | succ n ih =>
    intro z1 z3 hf
    rw [f_C_digest_L25] at hf
    refine ax_iload_n (i := 3) dC_digest_25 rfl rfl ?_
    refine ax_aload_n (i := 0) (some y0) dC_digest_26 rfl rfl ?_
    replace hf := bd1_s hf
    obtain ⟨x8, e_x8, hf⟩ := hf
    refine ax_getI fl_323 rfl dC_digest_27 e_x8 ?_
    replace hf := ite_c hf
    rcases hf with ⟨hc, hf⟩ | ⟨hc, hf⟩
    · refine ax_icmp_geF 50 dC_digest_30 (by decide) hc ?_
      refine ax_aload_n (i := 0) (some y0) dC_digest_33 rfl rfl ?_
      replace hf := bd1_s hf
      obtain ⟨r9, e_r9, hf⟩ := hf
      refine ax_getR fl_322 rfl dC_digest_34 e_r9 ?_
      refine ax_iload_n (i := 3) dC_digest_37 rfl rfl ?_
      replace hf := bd1_s hf
      obtain ⟨a10, e_d, hf⟩ := hf
      subst e_d
      replace hf := bd1_s hf
      obtain ⟨r11, e_r11, hf⟩ := hf
      refine ax_aald (c := 9) (by decide) rfl rfl dC_digest_38 e_r11 ?_
      refine ax_lload_n (i := 1) dC_digest_39 rfl rfl ?_
      replace hf := bd1_s hf
      obtain ⟨a12, e_d, hf⟩ := hf
      subst e_d
      replace hf := bd1_s hf
      obtain ⟨x13, e_x13, hf⟩ := hf
      obtain ⟨k_e_x13, e_x13⟩ := cv_s e_x13
      refine ax_callV (As := [.long z1]) (rest := []) (c_Ta_mixedInto e_x13) ml_1001 cm_Ta_mixedInto rfl k_e_x13 (Nat.le_trans (Nat.le_of_ble_eq_true rfl) hR1) (Nat.le_trans (Nat.le_of_ble_eq_true rfl) hR2) rfl rfl (Nat.le_of_ble_eq_true rfl) dC_digest_40 ?_
      refine ax_lstore_n (i := 1) [some (va_rf (some y0)), some (.long x13), none, some (.int z3)] dC_digest_43 rfl (Nat.le_of_ble_eq_true rfl) (Or.inr (c1r rfl)) rfl ?_
      refine ax_iinc (i := 3) (z3 + (1 : Int32)) [some (va_rf (some y0)), some (.long x13), none, some (.int (z3 + (1 : Int32)))] dC_digest_44 rfl (iic k32_1) (Or.inr (c1n rfl)) rfl ?_
      refine ax_goto 25 dC_digest_47 (by decide) ?_
      exact ih x13 (z3 + (1 : Int32)) hf
    · refine ax_icmp_geT 50 dC_digest_30 (by decide) hc ?_
      refine ax_mask [true, true, true, false] rfl [some (va_rf (some y0)), some (.long z1), none, none] rfl ?_
      exact hk z1 hf
theorem w_C_digest_L52 {l : Launch} {E : EN} {R : Room} {B : (Nat × Nat) × (Nat × Nat)} {Qf : QF} {h0 : AH} {ρ : Type} {res : ρ} (hR1 : 3 ≤ R.frames) (hR2 : 192 ≤ R.locals) {y0 : Nat} {k : Int64 → Option (ρ)} (hk : ∀ (z1 : Int64), k z1 = some res → AW l E mi_C_digest R B Qf 88 [some (va_rf (some y0)), some (.long z1), none, none] [] h0) : ∀ (n : Nat) (z1 : Int64) (z3 : Int32), f_C_digest_L52 h0 y0 k n z1 z3 = some res → AW l E mi_C_digest R B Qf 52 [some (va_rf (some y0)), some (.long z1), none, some (.int z3)] [] h0 := by
  intro n
  induction n with
  | zero => intro z1 z3 hf; cases hf
  | succ n ih =>
    intro z1 z3 hf
    rw [f_C_digest_L52] at hf
    refine ax_iload_n (i := 3) dC_digest_52 rfl rfl ?_
    refine ax_aload_n (i := 0) (some y0) dC_digest_53 rfl rfl ?_
    replace hf := bd1_s hf
    obtain ⟨r15, e_r15, hf⟩ := hf
    refine ax_getR fl_329 rfl dC_digest_54 e_r15 ?_
    replace hf := bd1_s hf
    obtain ⟨a16, e_d, hf⟩ := hf
    subst e_d
    replace hf := bd1_s hf
    obtain ⟨x17, e_x17, hf⟩ := hf
    refine ax_getI fl_239 rfl dC_digest_57 e_x17 ?_
    replace hf := ite_c hf
    rcases hf with ⟨hc, hf⟩ | ⟨hc, hf⟩
    · refine ax_icmp_geF 88 dC_digest_60 (by decide) hc ?_
      refine ax_lload_n (i := 1) dC_digest_63 rfl rfl ?_
      refine ax_aload_n (i := 0) (some y0) dC_digest_64 rfl rfl ?_
      replace hf := bd1_s hf
      obtain ⟨r18, e_r18, hf⟩ := hf
      refine ax_getR fl_329 rfl dC_digest_65 e_r18 ?_
      replace hf := bd1_s hf
      obtain ⟨a19, e_d, hf⟩ := hf
      subst e_d
      replace hf := bd1_s hf
      obtain ⟨r20, e_r20, hf⟩ := hf
      refine ax_getR fl_237 rfl dC_digest_68 e_r20 ?_
      refine ax_iload_n (i := 3) dC_digest_71 rfl rfl ?_
      replace hf := bd1_s hf
      obtain ⟨a21, e_d, hf⟩ := hf
      subst e_d
      replace hf := bd1_s hf
      obtain ⟨r22, e_r22, hf⟩ := hf
      refine ax_aald (c := 4) (by decide) rfl rfl dC_digest_72 e_r22 ?_
      replace hf := bd1_s hf
      obtain ⟨a23, e_d, hf⟩ := hf
      subst e_d
      replace hf := bd1_s hf
      obtain ⟨r24, e_r24, hf⟩ := hf
      refine ax_getR fl_706 rfl dC_digest_73 e_r24 ?_
      refine ax_bipush (8 : Int32) dC_digest_76 k8_8 ?_
      replace hf := bd1_s hf
      obtain ⟨x25, e_x25, hf⟩ := hf
      refine ax_callS (As := [.long z1, va_rf r24, .int (8 : Int32)]) (rest := []) (c_C_mixed e_x25) ml_997 cm_C_mixed (Nat.le_trans (Nat.le_of_ble_eq_true rfl) hR1) (Nat.le_trans (Nat.le_of_ble_eq_true rfl) hR2) rfl rfl (Nat.le_of_ble_eq_true rfl) dC_digest_78 ?_
      refine ax_lstore_n (i := 1) [some (va_rf (some y0)), some (.long x25), none, some (.int z3)] dC_digest_81 rfl (Nat.le_of_ble_eq_true rfl) (Or.inr (c1r rfl)) rfl ?_
      refine ax_iinc (i := 3) (z3 + (1 : Int32)) [some (va_rf (some y0)), some (.long x25), none, some (.int (z3 + (1 : Int32)))] dC_digest_82 rfl (iic k32_1) (Or.inr (c1n rfl)) rfl ?_
      refine ax_goto 52 dC_digest_85 (by decide) ?_
      exact ih x25 (z3 + (1 : Int32)) hf
    · refine ax_icmp_geT 88 dC_digest_60 (by decide) hc ?_
      refine ax_mask [true, true, true, false] rfl [some (va_rf (some y0)), some (.long z1), none, none] rfl ?_
      exact hk z1 hf
theorem v_C_digest {l : Launch} {E : EN} {R : Room} {B : (Nat × Nat) × (Nat × Nat)} {Qf : QF} {h0 : AH} {o : Nat} {r : Int64} (hR1 : 3 ≤ R.frames) (hR2 : 192 ≤ R.locals) (Hr : ∀ (pc : Nat) (L : List (Option Value)), decode mi_C_digest.2.1 pc = .ok (.lreturn, 1) → AW l E mi_C_digest R B Qf pc L [.long r] h0) (hf : f_C_digest h0 o = some r) : AW l E mi_C_digest R B Qf 0 [some (va_rf (some o)), none, none, none] [] h0 := by
  unfold f_C_digest at hf
  refine ax_ldc2 w_996 dC_digest_0 ?_
  refine ax_lstore_n (i := 1) [some (va_rf (some o)), some (.long (211 : Int64)), none, none] dC_digest_3 rfl (Nat.le_of_ble_eq_true rfl) (Or.inr (c1r rfl)) rfl ?_
  refine ax_lload_n (i := 1) dC_digest_4 rfl rfl ?_
  refine ax_aload_n (i := 0) (some o) dC_digest_5 rfl rfl ?_
  replace hf := bd1_s hf
  obtain ⟨r1, e_r1, hf⟩ := hf
  refine ax_getR fl_321 rfl dC_digest_6 e_r1 ?_
  replace hf := bd1_s hf
  obtain ⟨a2, e_d, hf⟩ := hf
  subst e_d
  replace hf := bd1_s hf
  obtain ⟨r3, e_r3, hf⟩ := hf
  refine ax_getR fl_79 rfl dC_digest_9 e_r3 ?_
  refine ax_aload_n (i := 0) (some o) dC_digest_12 rfl rfl ?_
  replace hf := bd1_s hf
  obtain ⟨r4, e_r4, hf⟩ := hf
  refine ax_getR fl_321 rfl dC_digest_13 e_r4 ?_
  replace hf := bd1_s hf
  obtain ⟨a5, e_d, hf⟩ := hf
  subst e_d
  replace hf := bd1_s hf
  obtain ⟨x6, e_x6, hf⟩ := hf
  refine ax_getI fl_80 rfl dC_digest_16 e_x6 ?_
  replace hf := bd1_s hf
  obtain ⟨x7, e_x7, hf⟩ := hf
  refine ax_callS (As := [.long (211 : Int64), va_rf r3, .int x6]) (rest := []) (c_C_mixed e_x7) ml_997 cm_C_mixed (Nat.le_trans (Nat.le_of_ble_eq_true rfl) hR1) (Nat.le_trans (Nat.le_of_ble_eq_true rfl) hR2) rfl rfl (Nat.le_of_ble_eq_true rfl) dC_digest_19 ?_
  refine ax_lstore_n (i := 1) [some (va_rf (some o)), some (.long x7), none, none] dC_digest_22 rfl (Nat.le_of_ble_eq_true rfl) (Or.inr (c1r rfl)) rfl ?_
  refine ax_iconst (0 : Int32) dC_digest_23 k32_0 ?_
  refine ax_istore_n (i := 3) [some (va_rf (some o)), some (.long x7), none, some (.int (0 : Int32))] dC_digest_24 rfl (Nat.le_of_ble_eq_true rfl) (Or.inr (c1n rfl)) rfl ?_
  refine w_C_digest_L25 hR1 hR2 (fun x14 hf => ?_) FU x7 (0 : Int32) hf
  refine ax_iconst (0 : Int32) dC_digest_50 k32_0 ?_
  refine ax_istore_n (i := 3) [some (va_rf (some o)), some (.long x14), none, some (.int (0 : Int32))] dC_digest_51 rfl (Nat.le_of_ble_eq_true rfl) (Or.inr (c1n rfl)) rfl ?_
  refine w_C_digest_L52 hR1 hR2 (fun x26 hf => ?_) FU x14 (0 : Int32) hf
  refine ax_lload_n (i := 1) dC_digest_88 rfl rfl ?_
  refine ax_aload_n (i := 0) (some o) dC_digest_89 rfl rfl ?_
  replace hf := bd1_s hf
  obtain ⟨r27, e_r27, hf⟩ := hf
  refine ax_getR fl_329 rfl dC_digest_90 e_r27 ?_
  replace hf := bd1_s hf
  obtain ⟨a28, e_d, hf⟩ := hf
  subst e_d
  replace hf := bd1_s hf
  obtain ⟨r29, e_r29, hf⟩ := hf
  refine ax_getR fl_241 rfl dC_digest_93 e_r29 ?_
  refine ax_bipush (12 : Int32) dC_digest_96 k8_12 ?_
  replace hf := bd1_s hf
  obtain ⟨x30, e_x30, hf⟩ := hf
  refine ax_callS (As := [.long x26, va_rf r29, .int (12 : Int32)]) (rest := []) (c_C_mixed e_x30) ml_997 cm_C_mixed (Nat.le_trans (Nat.le_of_ble_eq_true rfl) hR1) (Nat.le_trans (Nat.le_of_ble_eq_true rfl) hR2) rfl rfl (Nat.le_of_ble_eq_true rfl) dC_digest_98 ?_
  refine ax_lstore_n (i := 1) [some (va_rf (some o)), some (.long x30), none, none] dC_digest_101 rfl (Nat.le_of_ble_eq_true rfl) (Or.inr (c1r rfl)) rfl ?_
  refine ax_lload_n (i := 1) dC_digest_102 rfl rfl ?_
  refine ax_aload_n (i := 0) (some o) dC_digest_103 rfl rfl ?_
  replace hf := bd1_s hf
  obtain ⟨r31, e_r31, hf⟩ := hf
  refine ax_getR fl_329 rfl dC_digest_104 e_r31 ?_
  replace hf := bd1_s hf
  obtain ⟨a32, e_d, hf⟩ := hf
  subst e_d
  replace hf := bd1_s hf
  obtain ⟨r33, e_r33, hf⟩ := hf
  refine ax_getR fl_243 rfl dC_digest_107 e_r33 ?_
  refine ax_aload_n (i := 0) (some o) dC_digest_110 rfl rfl ?_
  replace hf := bd1_s hf
  obtain ⟨r34, e_r34, hf⟩ := hf
  refine ax_getR fl_329 rfl dC_digest_111 e_r34 ?_
  replace hf := bd1_s hf
  obtain ⟨a35, e_d, hf⟩ := hf
  subst e_d
  replace hf := bd1_s hf
  obtain ⟨x36, e_x36, hf⟩ := hf
  refine ax_getI fl_245 rfl dC_digest_114 e_x36 ?_
  replace hf := bd1_s hf
  obtain ⟨x37, e_x37, hf⟩ := hf
  refine ax_callS (As := [.long x30, va_rf r33, .int x36]) (rest := []) (c_C_mixed e_x37) ml_997 cm_C_mixed (Nat.le_trans (Nat.le_of_ble_eq_true rfl) hR1) (Nat.le_trans (Nat.le_of_ble_eq_true rfl) hR2) rfl rfl (Nat.le_of_ble_eq_true rfl) dC_digest_117 ?_
  refine ax_lstore_n (i := 1) [some (va_rf (some o)), some (.long x37), none, none] dC_digest_120 rfl (Nat.le_of_ble_eq_true rfl) (Or.inr (c1r rfl)) rfl ?_
  refine ax_ldc2 w_1000 dC_digest_121 ?_
  refine ax_lload_n (i := 1) dC_digest_124 rfl rfl ?_
  refine ax_lmul dC_digest_125 ?_
  refine ax_aload_n (i := 0) (some o) dC_digest_126 rfl rfl ?_
  replace hf := bd1_s hf
  obtain ⟨r38, e_r38, hf⟩ := hf
  refine ax_getR fl_331 rfl dC_digest_127 e_r38 ?_
  replace hf := bd1_s hf
  obtain ⟨a39, e_d, hf⟩ := hf
  subst e_d
  replace hf := bd1_s hf
  obtain ⟨x40, e_x40, hf⟩ := hf
  refine ax_getI fl_301 rfl dC_digest_130 e_x40 ?_
  refine ax_i2l dC_digest_133 ?_
  refine ax_ladd dC_digest_134 ?_
  replace hf := bd1_s hf
  obtain ⟨x41, e_x41, hf⟩ := hf
  refine ax_nmJ (Option.some.inj e_x41) ?_
  refine ax_lstore_n (i := 1) [some (va_rf (some o)), some (.long x41), none, none] dC_digest_135 rfl (Nat.le_of_ble_eq_true rfl) (Or.inr (c1r rfl)) rfl ?_
  refine ax_ldc2 w_1000 dC_digest_136 ?_
  refine ax_lload_n (i := 1) dC_digest_139 rfl rfl ?_
  refine ax_lmul dC_digest_140 ?_
  refine ax_aload_n (i := 0) (some o) dC_digest_141 rfl rfl ?_
  replace hf := bd1_s hf
  obtain ⟨r42, e_r42, hf⟩ := hf
  refine ax_getR fl_331 rfl dC_digest_142 e_r42 ?_
  replace hf := bd1_s hf
  obtain ⟨a43, e_d, hf⟩ := hf
  subst e_d
  replace hf := bd1_s hf
  obtain ⟨r44, e_r44, hf⟩ := hf
  obtain ⟨k_e_r44, e_r44⟩ := cv_s e_r44
  refine ax_callV (As := []) (rest := [.long ((31 : Int64) * x41)]) (c_Lo_last e_r44) ml_957 cm_Lo_last rfl k_e_r44 (Nat.le_trans (Nat.le_of_ble_eq_true rfl) hR1) (Nat.le_trans (Nat.le_of_ble_eq_true rfl) hR2) rfl rfl (Nat.le_of_ble_eq_true rfl) dC_digest_145 ?_
  replace hf := bd1_s hf
  obtain ⟨a45, e_d, hf⟩ := hf
  subst e_d
  replace hf := bd1_s hf
  obtain ⟨x46, e_x46, hf⟩ := hf
  obtain ⟨k_e_x46, e_x46⟩ := cv_s e_x46
  refine ax_callV (As := []) (rest := [.long ((31 : Int64) * x41)]) (c_Wo_size e_x46) ml_943 cm_Wo_size rfl k_e_x46 (Nat.le_trans (Nat.le_of_ble_eq_true rfl) hR1) (Nat.le_trans (Nat.le_of_ble_eq_true rfl) hR2) rfl rfl (Nat.le_of_ble_eq_true rfl) dC_digest_148 ?_
  refine ax_i2l dC_digest_151 ?_
  refine ax_ladd dC_digest_152 ?_
  replace hf := bd1_s hf
  obtain ⟨x47, e_x47, hf⟩ := hf
  refine ax_nmJ (Option.some.inj e_x47) ?_
  refine ax_lstore_n (i := 1) [some (va_rf (some o)), some (.long x47), none, none] dC_digest_153 rfl (Nat.le_of_ble_eq_true rfl) (Or.inr (c1r rfl)) rfl ?_
  refine ax_ldc2 w_1000 dC_digest_154 ?_
  refine ax_lload_n (i := 1) dC_digest_157 rfl rfl ?_
  refine ax_lmul dC_digest_158 ?_
  refine ax_aload_n (i := 0) (some o) dC_digest_159 rfl rfl ?_
  replace hf := bd1_s hf
  obtain ⟨x48, e_x48, hf⟩ := hf
  refine ax_getI fl_327 rfl dC_digest_160 e_x48 ?_
  refine ax_i2l dC_digest_163 ?_
  refine ax_ladd dC_digest_164 ?_
  replace hf := bd1_s hf
  obtain ⟨x49, e_x49, hf⟩ := hf
  refine ax_nmJ (Option.some.inj e_x49) ?_
  refine ax_lstore_n (i := 1) [some (va_rf (some o)), some (.long x49), none, none] dC_digest_165 rfl (Nat.le_of_ble_eq_true rfl) (Or.inr (c1r rfl)) rfl ?_
  refine ax_ldc2 w_1000 dC_digest_166 ?_
  refine ax_lload_n (i := 1) dC_digest_169 rfl rfl ?_
  refine ax_lmul dC_digest_170 ?_
  refine ax_aload_n (i := 0) (some o) dC_digest_171 rfl rfl ?_
  replace hf := bd1_s hf
  obtain ⟨x50, e_x50, hf⟩ := hf
  refine ax_getI fl_328 rfl dC_digest_172 e_x50 ?_
  refine ax_i2l dC_digest_175 ?_
  refine ax_ladd dC_digest_176 ?_
  replace hf := bd1_s hf
  obtain ⟨x51, e_x51, hf⟩ := hf
  refine ax_nmJ (Option.some.inj e_x51) ?_
  refine ax_lstore_n (i := 1) [some (va_rf (some o)), some (.long x51), none, none] dC_digest_177 rfl (Nat.le_of_ble_eq_true rfl) (Or.inr (c1r rfl)) rfl ?_
  refine ax_ldc2 w_1000 dC_digest_178 ?_
  refine ax_lload_n (i := 1) dC_digest_181 rfl rfl ?_
  refine ax_lmul dC_digest_182 ?_
  refine ax_aload_n (i := 0) (some o) dC_digest_183 rfl rfl ?_
  replace hf := bd1_s hf
  obtain ⟨x52, e_x52, hf⟩ := hf
  refine ax_getI fl_330 rfl dC_digest_184 e_x52 ?_
  refine ax_i2l dC_digest_187 ?_
  refine ax_ladd dC_digest_188 ?_
  cases hf
  exact Hr _ _ dC_digest_189
theorem c_C_digest {l : Launch} {E : EN} {h0 : AH} {o : Nat} {r : Int64} (hf : f_C_digest h0 o = some r) : AM l E 3 mi_C_digest [va_rf (some o)] h0 (some (.long r)) h0 :=
  am_of2 [(va_rf (some o), false)] 3 ⟨cat_rf _, trivial⟩ rfl rfl (v_C_digest (Nat.le_refl _) (Nat.le_refl _) (fun pc L hd => ax_lret rfl hd rfl) hf)
