/-! THE REFERENCE'S SEARCH -/
def SPm (a k : Nat) : Prop := (a = 201 ∧ k = 51) ∨ a = 232 ∨ a = 233 ∨ a = 234
section PM
variable {m0 g h0 : AH} {hn most : Nat} {ha : Nat → Nat} {F w : Int32}
theorem run_st (e : ∀ a, 206 ≤ a → a ≤ 210 → hI g a = hI h0 a) (r : Rw) (F : Int32) : ∀ i, run g r F i = run h0 r F i
  | 0 => by simp only [run]; rw [e 210 (by decide) (by decide)]
  | i + 1 => by
    simp only [run]
    rw [run_st e r F i]
    unfold stp
    rw [e 206 (by decide) (by decide), e 207 (by decide) (by decide), e 208 (by decide) (by decide), e 210 (by decide) (by decide)]
theorem stop_st (e : ∀ a, 206 ≤ a → a ≤ 210 → hI g a = hI h0 a) (r : Rw) (F : Int32) (i : Nat) : stopP g r F i = stopP h0 r F i := by
  unfold stopP okS
  rw [run_st e, e 206 (by decide) (by decide), e 209 (by decide) (by decide)]
theorem cst_st (e : ∀ a, 206 ≤ a → a ≤ 210 → hI g a = hI h0 a) (r : Rw) : ∀ i, cst g r i = cst h0 r i
  | 0 => rfl
  | i + 1 => by simp only [cst]; rw [cst_st e r i]; unfold prN; rw [e 209 (by decide) (by decide)]
theorem rowK_st (e : ∀ a, 206 ≤ a → a ≤ 210 → hI g a = hI h0 a) (r : Rw) (L : Nat) : rowK g hn F w r L ↔ rowK h0 hn F w r L := by
  unfold rowK
  simp only [stop_st e, run_st e]
theorem Res.st {X : Rw → Nat → Prop} {b b' : Option (Rw × Nat)} (e : ∀ a, 206 ≤ a → a ≤ 210 → hI g a = hI h0 a) (x : Res g X b b') : Res h0 X b b' := by
  have k : ∀ r L, key g r L = key h0 r L := fun r L => by unfold key; rw [cst_st e]
  have l : ∀ a b, ltO g a b ↔ ltO h0 a b := by
    intro a b
    cases b with
    | none => exact Iff.rfl
    | some b => show lt2 a (key g b.1 b.2) ↔ lt2 a (key h0 b.1 b.2); rw [k]
  unfold Res at x ⊢
  simpa only [k, l] using x
theorem prc_cst (rh : RHelp h0 hn ha) {r : Rw} : ∀ L, (∀ i, i < L → r i < hn) → prc h0 r L = nI (cst h0 r L)
  | 0, _ => rfl
  | L + 1, e => by
    simp only [prc, cst]
    rw [prc_cst rh L (fun i hi => e i (by omega)), ((rh.2.2.2 (r L) (e L (by omega))).2.pr).2.1, nI_add]
theorem spm_st (f : Dfr SPm m0 g) : ∀ a, 206 ≤ a → a ≤ 210 → hI g a = hI m0 a := fun a h1 h2 => by funext k; exact f.I (by unfold SPm; omega)
theorem digs_M (hl : Lay m0) (hnv : hI m0 201 9 = nI hn) (h8 : hn ≤ 8) {ρ : Type} {Q : ρ → Prop} (k : AH → Option ρ) (y1 y2 y3 y4 y5 y6 y7 y8 : Int32) : ∀ j c N (g : AH), j ≤ 5 → c < hn ^ j → j < N → Dfr SPm m0 g → (∀ g', Dfr (OnC 233) g g' → (∀ i, i < j → hI g' 233 i = nI (digs hn j c i)) → (∀ i, ¬ i < j → hI g' 233 i = hI g 233 i) → OK (k g') Q) → OK (f_M_plan_L86 201 y1 y2 y3 y4 y5 y6 y7 y8 k N (nI c) (nI j - 1) g) Q := by
  intro j
  induction j with
  | zero =>
    intro c N g h5 hc hN f hk
    obtain ⟨N, rfl⟩ : ∃ q, N = q + 1 := ⟨N - 1, by omega⟩
    simp only [f_M_plan_L86, show nI 0 - 1 < 0 by decide, if_true]
    exact hk g Dfr.refl (fun i hi => absurd hi (by omega)) (fun i _ => rfl)
  | succ j ih =>
    intro c N g h5 hc hN f hk
    obtain ⟨N, rfl⟩ : ∃ q, N = q + 1 := ⟨N - 1, by omega⟩
    have hn0 : 0 < hn := by
      rcases Nat.eq_zero_or_pos hn with z | z
      · rw [z, Nat.pow_succ, Nat.mul_zero] at hc; omega
      · exact z
    have h1 : c / hn < hn ^ j := by rw [Nat.pow_succ, Nat.mul_comm] at hc; exact Nat.div_lt_of_lt_mul hc
    have cl : c < 2 ^ 31 := by
      have : hn ^ (j + 1) ≤ 8 ^ 5 := Nat.le_trans (Nat.pow_le_pow_left h8 _) (Nat.pow_le_pow_right (by decide) h5)
      omega
    have lg := f.lay hl
    have v9 : hI g 201 9 = nI hn := by rw [f.I (by unfold SPm; omega)]; exact hnv
    have nz : ¬ nI hn = 0 := nI_ne0 hn0 (by omega)
    obtain ⟨g1, e1⟩ : ∃ g1, g1 = uI g 233 j (nI (c % hn)) := ⟨_, rfl⟩
    have f1 : Dfr (OnC 233) g g1 := by rw [e1]; exact Dfr.uI (by decide) rfl
    have f01 : Dfr SPm m0 g1 := f.trans (f1.mono (fun a k z => Or.inr (Or.inr (Or.inl z))))
    have l1 := f01.lay hl
    have v91 : hI g1 201 9 = nI hn := by rw [f01.I (by unfold SPm; omega)]; exact hnv
    have w1 : wI g 233 (nI j) (nI (c % hn)) = some g1 := by rw [e1]; exact wI_n (by decide) (kk233 lg) (show j < 5 by omega) (by decide)
    simp only [f_M_plan_L86, nI_pred, nI_n0 j (by omega), if_false, gR_n (kk201 lg), LR lg, gI_n (kk201 lg), v9, Option.bind_some, nz, not_false_eq_true, if_true, pk_rem cl hn0 (show hn < 2 ^ 31 by omega), w1, gI_n (kk201 l1), v91]
    rw [pk_div cl hn0 (show hn < 2 ^ 31 by omega)]
    rw [show nI j + (-1 : Int32) = nI j - 1 by rw [Int32.sub_eq_add_neg]]
    refine ih (c / hn) N g1 (by omega) h1 (by omega) f01 (fun g' f' a1 a2 => ?_)
    refine hk g' (f1.trans f') (fun i hi => ?_) (fun i hi => ?_)
    · by_cases z : i = j
      · subst z
        rw [a2 i (by omega), e1, hI_eq]
        simp only [digs, if_true]
      · rw [a1 i (by omega)]
        simp only [digs]
        rw [if_neg z]
    · rw [a2 i (by omega), e1, hI_ne (by omega)]
theorem copyB_M (hl : Lay m0) {ρ : Type} {Q : ρ → Prop} (k : AH → Option ρ) (y1 y2 y3 y4 y5 y6 y8 : Int32) {L : Nat} (hL : L ≤ 5) {r : Rw} {g : AH} (f : Dfr SPm m0 g) (hr : ∀ i, i < L → hI g 233 i = nI (r i)) (hk : ∀ g', Dfr (OnC 234) g g' → (∀ i, i < L → hI g' 234 i = nI (r i)) → OK (k g') Q) : OK (f_M_plan_L182 201 y1 y2 y3 y4 y5 y6 (nI L) y8 k FU 0 g) Q := by
  have main : ∀ N (z : Nat × AH), (z.1 ≤ L ∧ Dfr (OnC 234) g z.2 ∧ ∀ i, i < z.1 → hI z.2 234 i = nI (r i)) → L - z.1 < N → OK (f_M_plan_L182 201 y1 y2 y3 y4 y5 y6 (nI L) y8 k N (nI z.1) z.2) Q := by
    refine loopU (fun N (z : Nat × AH) => f_M_plan_L182 201 y1 y2 y3 y4 y5 y6 (nI L) y8 k N (nI z.1) z.2) _ (fun z => L - z.1) _ ?_
    intro N z ⟨h1, h2, h3⟩ ih
    obtain ⟨i, e⟩ := z
    dsimp only at h1 h2 h3 ih ⊢
    have le := h2.lay (f.lay hl)
    by_cases q : i < L
    · have e3 : hI e 233 i = nI (r i) := by rw [h2.I (by unfold OnC; omega)]; exact hr i q
      simp only [f_M_plan_L182, nI_lt q (by omega), if_true, gR_n (kk201 le), LR le, Option.bind_some, rI_n (kk233 le) (show i < 5 by omega) (by decide), e3, wI_n (show 4 ≤ 234 by decide) (kk234 le) (show i < 5 by omega) (by decide), nI_1]
      refine ih (i + 1, uI e 234 i _) ⟨by dsimp only; omega, h2.trans (Dfr.uI (by decide) rfl), fun x hx => ?_⟩ (by dsimp only; omega)
      dsimp only at hx ⊢
      by_cases z : x = i
      · subst z; rw [hI_eq]
      · rw [hI_ne (by omega)]; exact h3 x (by omega)
    · have : i = L := by omega
      subst this
      simp only [f_M_plan_L182, nI_nlt (Nat.le_refl i) (by omega), if_false]
      exact hk e h2 h3
  exact main FU (0, g) ⟨by simp, Dfr.refl, fun i hi => absurd hi (by simp)⟩ (by show L - 0 < FU; unfold FU; omega)
/-- the best so far, as the reference keeps it -/
def MB (m0 g : AH) (L : Nat) (z4 z5 : Int32) : Option (Rw × Nat) → Prop
  | none => z4 = -1
  | some b => z4 = nI (cst m0 b.1 b.2) ∧ z5 = nI b.2 ∧ b.2 ≤ L ∧ b.2 ≤ 5 ∧ cst m0 b.1 b.2 ≤ 250 ∧ ∀ i, i < b.2 → hI g 234 i = nI (b.1 i)
def proc (m0 : AH) (hn : Nat) (F w : Int32) (L c : Nat) (r : Rw) (M : Nat) : Prop := rowK m0 hn F w r M ∧ (M < L ∨ (M = L ∧ cdr hn r L < c))
def sgl (m0 : AH) (hn : Nat) (F w : Int32) (L c : Nat) (r : Rw) (M : Nat) : Prop := M = L ∧ rowK m0 hn F w r L ∧ cdr hn r L = c
theorem MB.fr {L : Nat} {z4 z5 : Int32} {b : Option (Rw × Nat)} {g g' : AH} (x : MB m0 g L z4 z5 b) (e : ∀ i, hI g' 234 i = hI g 234 i) : MB m0 g' L z4 z5 b := by
  cases b with
  | none => exact x
  | some b => exact ⟨x.1, x.2.1, x.2.2.1, x.2.2.2.1, x.2.2.2.2.1, fun i hi => by rw [e]; exact x.2.2.2.2.2 i hi⟩
theorem proc_step {L c : Nat} {b b' : Option (Rw × Nat)} (R : Res m0 (proc m0 hn F w L c) none b) (Z : Res m0 (sgl m0 hn F w L c) b b') : Res m0 (proc m0 hn F w L (c + 1)) none b' := by
  refine (R.comp Z (fun r r' M x z => ?_)).iff (fun r M => ?_)
  · obtain ⟨z1, z2, z3⟩ := z
    subst z1
    rcases x.2 with y | ⟨_, y⟩
    · omega
    · exact cdr_lex M x.1.1 z2.1 (by omega)
  · unfold proc sgl
    constructor
    · rintro (⟨x1, x2⟩ | ⟨rfl, x2, x3⟩)
      · exact ⟨x1, by omega⟩
      · exact ⟨x2, Or.inr ⟨rfl, by omega⟩⟩
    · rintro ⟨x1, x2⟩
      by_cases z : M = L ∧ cdr hn r L = c
      · obtain ⟨rfl, z2⟩ := z
        exact Or.inr ⟨rfl, x1, z2⟩
      · exact Or.inl ⟨x1, by omega⟩
theorem rows_M (hl : Lay m0) (rh : RHelp m0 hn ha) {L : Nat} (hL : L ≤ 5) (y3 : Int32) {ρ : Type} {Q : ρ → Prop} (k : Int32 → Int32 → AH → Option ρ) (hk : ∀ z4 z5 g b, Dfr SPm m0 g → MB m0 g L z4 z5 b → Res m0 (proc m0 hn F w L (hn ^ L)) none b → OK (k z4 z5 g) Q) : ∀ N (z : Nat × Int32 × Int32 × AH), (z.1 ≤ hn ^ L ∧ Dfr SPm m0 z.2.2.2 ∧ ∃ b, MB m0 z.2.2.2 L z.2.1 z.2.2.1 b ∧ Res m0 (proc m0 hn F w L z.1) none b) → hn ^ L - z.1 < N → OK (f_M_plan_L69 201 F w y3 (nI (hn ^ L)) (nI L) k N z.2.1 z.2.2.1 (nI z.1) z.2.2.2) Q := by
  have h8 := rh.1
  have pl : hn ^ L ≤ 8 ^ 5 := Nat.le_trans (Nat.pow_le_pow_left h8 _) (Nat.pow_le_pow_right (by decide) hL)
  refine loopU (fun N (z : Nat × Int32 × Int32 × AH) => f_M_plan_L69 201 F w y3 (nI (hn ^ L)) (nI L) k N z.2.1 z.2.2.1 (nI z.1) z.2.2.2) _ (fun z => hn ^ L - z.1) _ ?_
  intro N z ⟨h1, f, b, B, R⟩ ih
  obtain ⟨c, z4, z5, g⟩ := z
  dsimp only at h1 f B R ih ⊢
  by_cases q : c < hn ^ L
  · simp only [f_M_plan_L69, nI_lt q (by omega), if_true, Option.bind_some]
    refine digs_M hl rh.2.2.1 h8 _ _ _ _ _ _ _ _ _ L c FU g hL q (by unfold FU; omega) f (fun g1 f1 v1 _ => ?_)
    obtain ⟨D, eD⟩ : ∃ D, D = digs hn L c := ⟨_, rfl⟩
    rw [← eD] at v1
    have Dlt : ∀ i, i < L → D i < hn := by
      intro i hi
      have hn0 : 0 < hn := by
        rcases Nat.eq_zero_or_pos hn with z | z
        · rw [z, Nat.zero_pow (by omega)] at q; omega
        · exact z
      rw [eD]; exact digs_lt hn0 L c i
    have Dc : cdr hn D L = c := by
      rcases Nat.eq_zero_or_pos L with z | z
      · subst z; simp at q; rw [q]; rfl
      · have hn0 : 0 < hn := by
          rcases Nat.eq_zero_or_pos hn with y | y
          · rw [y, Nat.zero_pow (by omega)] at q; omega
          · exact y
        rw [eD]; exact digs_cdr hn0 L c q
    have f01 : Dfr SPm m0 g1 := f.trans (f1.mono (fun a k z => Or.inr (Or.inr (Or.inl z))))
    have l1 := f01.lay hl
    have st1 := spm_st f01
    have rh1 : RHelp g1 hn ha := rh.ag hl.2.2.2.2.2.2 (f01.fr.ag (by unfold FHelp SPm; omega))
    have B1 : MB m0 g1 L z4 z5 b := B.fr (fun i => f1.I (by unfold OnC; omega))
    have v8 : ∀ i, i < L → D i < 8 ∧ hI g1 233 i = nI (D i) := fun i hi => ⟨by have := Dlt i hi; omega, v1 i hi⟩
    have P := prices_M (r := D) (n0 := L) l1 (kk233 l1) v8 hL
    rw [prc_cst rh1 L Dlt, cst_st st1] at P
    have cD := cst_b rh L Dlt
    simp only [gR_n (kk201 l1), LR l1, Option.bind_some, cv_n (kk201 l1), P]
    -- the row is looked at
    have look : ltO m0 (key m0 D L) b → OK (bd2 (f_M_walkRow g1 201 (some 233) (nI L) F) fun x18 h19 =>
          if x18 = (-1 : Int32) then
            (gI 12 h19 201 51).bind fun x20 =>
            if (w &&& (x20 ^^^ (-1 : Int32))) = (0 : Int32) then
              f_M_plan_L182 201 F w y3 (nI (cst m0 D L)) (nI L) (nI (hn ^ L)) (nI L) (nI c) (fun h27 =>
                f_M_plan_L69 201 F w y3 (nI (hn ^ L)) (nI L) k N (nI (cst m0 D L)) (nI L) (nI c + (1 : Int32)) h27
              ) FU (0 : Int32) h19
            else
              f_M_plan_L69 201 F w y3 (nI (hn ^ L)) (nI L) k N z4 z5 (nI c + (1 : Int32)) h19
          else
            f_M_plan_L69 201 F w y3 (nI (hn ^ L)) (nI L) k N z4 z5 (nI c + (1 : Int32)) h19) Q := by
      intro hlt
      obtain ⟨⟨x, g2⟩, e2, f2, r2⟩ := walk_M (h0 := g1) l1 Dfr.refl (kk233 l1) (by decide) v8 hL F
      dsimp only at f2 r2
      have f2' : Dfr SPm g1 g2 := f2.mono (fun a k z => by unfold ScM at z; unfold SPm; omega)
      have f02 := f01.trans f2'
      have l2 := f02.lay hl
      have B2 : MB m0 g2 L z4 z5 b := B1.fr (fun i => f2.I (by unfold ScM; omega))
      rw [e2, bd2_v]
      have skip : ¬ rowK m0 hn F w D L → OK (f_M_plan_L69 201 F w y3 (nI (hn ^ L)) (nI L) k N z4 z5 (nI c + (1 : Int32)) g2) Q := by
        intro no
        rw [nI_1]
        refine ih (c + 1, z4, z5, g2) ⟨by dsimp only; omega, f02, b, B2, proc_step R (Res.nil (fun r M z => ?_))⟩ (by dsimp only; omega)
        obtain ⟨z1, z2, z3⟩ := z
        exact no (rowK_cong (cdr_eq L z2.1 Dlt (by omega)) z2)
      rcases r2 with ⟨rfl, s1, s2⟩ | ⟨i, i1, rfl, i2, _⟩
      · rw [if_pos rfl, gI_n (kk201 l2), Option.bind_some, s2.1, run_st st1]
        simp only [stop_st st1] at s1
        by_cases wq : w &&& ((run m0 D F L).1 ^^^ (-1 : Int32)) = 0
        · rw [if_pos wq]
          have yes : rowK m0 hn F w D L := ⟨Dlt, s1, wq⟩
          refine copyB_M hl _ _ _ _ _ _ _ _ hL f02 (r := D) (fun i hi => by rw [f2.I (by unfold ScM; omega)]; exact v1 i hi) (fun g3 f3 v3 => ?_)
          rw [nI_1]
          refine ih (c + 1, nI (cst m0 D L), nI L, g3) ⟨by dsimp only; omega, f02.trans (f3.mono (fun a k z => Or.inr (Or.inr (Or.inr z)))), some (D, L), ⟨rfl, rfl, Nat.le_refl _, hL, (show cst m0 D L ≤ 250 by omega), v3⟩, proc_step R (Or.inr ⟨D, L, rfl, ⟨rfl, yes, Dc⟩, hlt, fun r' M z => ?_⟩)⟩ (by dsimp only; omega)
          obtain ⟨z1, z2, z3⟩ := z
          subst z1
          have same := cdr_eq M z2.1 Dlt (by omega)
          refine ⟨?_, fun _ => ?_⟩
          · unfold lt2 key; dsimp only; rw [cst_cong M same]; omega
          · rintro ⟨j, j1, j2, j3⟩
            rw [same j j1] at j3
            omega
        · rw [if_neg wq]
          exact skip (fun y => wq y.2.2)
      · rw [if_neg (fun z => m1_nI (by omega) z)]
        rw [stop_st st1] at i2
        exact skip (fun y => by rw [y.2.1 i i1] at i2; cases i2)
    cases b with
    | none =>
      have : z4 = -1 := B1
      rw [if_pos this]
      exact look trivial
    | some b =>
      obtain ⟨b1, b2, b3, b4, b5, b6⟩ := B1
      rw [if_neg (fun z => m1_nI (by omega) (b1.symm.trans z))]
      by_cases q2 : cst m0 D L < cst m0 b.1 b.2
      · rw [if_pos (by rw [b1]; exact nI_lt q2 (by omega))]
        exact look (Or.inl q2)
      · rw [if_neg (by rw [b1]; exact nI_nlt (by omega) (by omega)), nI_1]
        refine ih (c + 1, z4, z5, g1) ⟨by dsimp only; omega, f01, some b, ⟨b1, b2, b3, b4, b5, b6⟩, proc_step R (Or.inl ⟨rfl, fun r M z => ?_⟩)⟩ (by dsimp only; omega)
        obtain ⟨z1, z2, z3⟩ := z
        subst z1
        unfold ltO lt2 key
        dsimp only
        rw [cst_cong M (cdr_eq M z2.1 Dlt (by omega))]
        omega
  · have : c = hn ^ L := by omega
    subst this
    simp only [f_M_plan_L69, nI_nlt (Nat.le_refl (hn ^ L)) (by omega), if_false]
    exact hk z4 z5 g b f B R
theorem lens_M (hl : Lay m0) (rh : RHelp m0 hn ha) (hm : most ≤ 5) {ρ : Type} {Q : ρ → Prop} (k : Int32 → Int32 → AH → Option ρ) (hk : ∀ z4 z5 g b, Dfr SPm m0 g → MB m0 g 5 z4 z5 b → Res m0 (ext m0 hn most F w (fun _ => 0) 0) none b → OK (k z4 z5 g) Q) : OK (f_M_plan_L60 201 F w (nI most) k FU (-1) 0 1 0 m0) Q := by
  have h8 := rh.1
  have main : ∀ N (z : Nat × Int32 × Int32 × AH), (z.1 ≤ most + 1 ∧ Dfr SPm m0 z.2.2.2 ∧ ∃ b, MB m0 z.2.2.2 z.1 z.2.1 z.2.2.1 b ∧ Res m0 (proc m0 hn F w z.1 0) none b) → most + 1 - z.1 < N → OK (f_M_plan_L60 201 F w (nI most) k N z.2.1 z.2.2.1 (nI (hn ^ z.1)) (nI z.1) z.2.2.2) Q := by
    refine loopU (fun N (z : Nat × Int32 × Int32 × AH) => f_M_plan_L60 201 F w (nI most) k N z.2.1 z.2.2.1 (nI (hn ^ z.1)) (nI z.1) z.2.2.2) _ (fun z => most + 1 - z.1) _ ?_
    intro N z ⟨h1, f, b, B, R⟩ ih
    obtain ⟨L, z4, z5, g⟩ := z
    dsimp only at h1 f B R ih ⊢
    by_cases q : L ≤ most
    · simp only [f_M_plan_L60, nI_nlt q (by omega), if_false]
      refine rows_M hl rh (show L ≤ 5 by omega) _ _ (fun y4 y5 g' b' f' B' R' => ?_) FU (0, z4, z5, g) ⟨Nat.zero_le _, f, b, B, R⟩ (by show hn ^ L - 0 < FU; have : hn ^ L ≤ 8 ^ 5 := Nat.le_trans (Nat.pow_le_pow_left h8 _) (Nat.pow_le_pow_right (by decide) (by omega)); unfold FU; omega)
      have l' := f'.lay hl
      have v9 : hI g' 201 9 = nI hn := by rw [f'.I (by unfold SPm; omega)]; exact rh.2.2.1
      simp only [gI_n (kk201 l'), v9, Option.bind_some, pk_mul, ← Nat.pow_succ, nI_1]
      refine ih (L + 1, y4, y5, g') ⟨by dsimp only; omega, f', b', ?_, R'.iff (fun r M => ?_)⟩ (by dsimp only; omega)
      · dsimp only
        cases b' with
        | none => exact B'
        | some b' => exact ⟨B'.1, B'.2.1, by have := B'.2.2.1; omega, B'.2.2.2⟩
      · unfold proc
        dsimp only
        constructor
        · rintro ⟨x1, x2⟩; exact ⟨x1, by omega⟩
        · rintro ⟨x1, x2⟩
          refine ⟨x1, ?_⟩
          by_cases e : M = L
          · right
            subst e
            exact ⟨rfl, cdr_lt M x1.1⟩
          · left; omega
    · have : L = most + 1 := by omega
      subst this
      simp only [f_M_plan_L60, nI_lt (show most < most + 1 by omega) (by omega), if_true]
      refine hk z4 z5 g b f ?_ (R.iff (fun r M => ?_))
      · cases b with
        | none => exact B
        | some b => exact ⟨B.1, B.2.1, B.2.2.2.1, B.2.2.2⟩
      · unfold proc ext
        constructor
        · rintro ⟨x1, x2⟩; exact ⟨Nat.zero_le _, by omega, fun i hi => absurd hi (by omega), x1⟩
        · rintro ⟨x1, x2, x3, x4⟩; exact ⟨x4, Or.inl (by omega)⟩
  have := main FU (0, -1, 0, m0) ⟨Nat.zero_le _, Dfr.refl, none, rfl, Res.nil (fun r M x => by rcases x.2 with y | y <;> omega)⟩ (by show most + 1 - 0 < FU; unfold FU; omega)
  dsimp only at this
  rw [Nat.pow_zero] at this
  exact this
theorem back_row (hl : Lay g) {L : Nat} (hL : L ≤ 5) {r : Rw} (hr : ∀ i, i < L → hI g 234 i = nI (r i)) (y4 : Int32) : OK (f_M_plan_L245 201 y4 (nI L) FU 0 g) (fun q => q.1 = y4 ∧ Dfr (OnC 211) g q.2 ∧ ∀ i, i < L → hI q.2 211 i = nI (r i)) := by
  have main : ∀ N (z : Nat × AH), (z.1 ≤ L ∧ Dfr (OnC 211) g z.2 ∧ ∀ i, i < z.1 → hI z.2 211 i = nI (r i)) → L - z.1 < N → OK (f_M_plan_L245 201 y4 (nI L) N (nI z.1) z.2) (fun q => q.1 = y4 ∧ Dfr (OnC 211) g q.2 ∧ ∀ i, i < L → hI q.2 211 i = nI (r i)) := by
    refine loopU (fun N (z : Nat × AH) => f_M_plan_L245 201 y4 (nI L) N (nI z.1) z.2) _ (fun z => L - z.1) _ ?_
    intro N z ⟨h1, h2, h3⟩ ih
    obtain ⟨i, e⟩ := z
    dsimp only at h1 h2 h3 ih ⊢
    have le := h2.lay hl
    by_cases q : i < L
    · have e3 : hI e 234 i = nI (r i) := by rw [h2.I (by unfold OnC; omega)]; exact hr i q
      simp only [f_M_plan_L245, nI_lt q (by omega), if_true, gR_n (kk201 le), LR le, Option.bind_some, rI_n (kk234 le) (show i < 5 by omega) (by decide), e3, wI_n (show 4 ≤ 211 by decide) (kk211 le) (show i < 5 by omega) (by decide), nI_1]
      refine ih (i + 1, uI e 211 i _) ⟨by dsimp only; omega, h2.trans (Dfr.uI (by decide) rfl), fun x hx => ?_⟩ (by dsimp only; omega)
      dsimp only at hx ⊢
      by_cases z : x = i
      · subst z; rw [hI_eq]
      · rw [hI_ne (by omega)]; exact h3 x (by omega)
    · have : i = L := by omega
      subst this
      simp only [f_M_plan_L245, nI_nlt (Nat.le_refl i) (by omega), if_false]
      exact OK.mk ⟨rfl, h2, h3⟩
  exact main FU (0, g) ⟨by simp, Dfr.refl, fun i hi => absurd hi (by simp)⟩ (by show L - 0 < FU; unfold FU; omega)
def SPlan (a k : Nat) : Prop := SPl a k ∨ (a = 107 ∧ k = 4) ∨ a = 110 ∨ SPm a k ∨ (a = 201 ∧ (k = 8 ∨ k = 15)) ∨ a = 211 ∨ (a = 4 ∧ k = 9)
theorem o_plan {rn : Nat} (hl : Lay h0) (rh : RHelp h0 hn ha) (rl : RLev h0) (rr : RRow h0 hn rn) (rc : RCnt h0) (x y z : Int32) : ∃ r h1 h2, f_C_plan h0 4 x y z = some (r, h1) ∧ f_M_plan h1 201 x y z = some (r, h2) ∧ Dfr SPlan h0 h2 ∧ (∃ rn', RRow h2 hn rn') ∧ RCnt h2 := by
  have h8 := rh.1
  have iM : ∀ g, f_M_in g z (0 : Int32) (5 : Int32) = some (if z < 0 then 0 else if z < nI 6 then 1 else 0) := fun g => in_Mk g z (n := 5) (by decide)
  have no : ∀ q : Option (Int32 × AH), q = some (-102, h0) → ∀ q' : Option (Int32 × AH), q' = some (-102, h0) → ∃ r h1 h2, q = some (r, h1) ∧ q' = some (r, h2) ∧ Dfr SPlan h0 h2 ∧ (∃ rn', RRow h2 hn rn') ∧ RCnt h2 := fun q e q' e' => ⟨-102, h0, h0, e, e', Dfr.refl, ⟨rn, rr⟩, rc⟩
  by_cases q1 : (if x < 0 then (0 : Int32) else if x < nI 4096 then 1 else 0) = 0
  · refine ⟨-102, h0, h0, ?_, ?_, Dfr.refl, ⟨rn, rr⟩, rc⟩
    · simp only [f_C_plan, isFacts_C, Option.bind_some, q1, if_true]
    · simp only [f_M_plan, isSet_M, Option.bind_some, q1, if_true]
  by_cases q2 : (if y < 0 then (0 : Int32) else if y < nI 4096 then 1 else 0) = 0
  · refine ⟨-102, h0, h0, ?_, ?_, Dfr.refl, ⟨rn, rr⟩, rc⟩
    · simp only [f_C_plan, isFacts_C, Option.bind_some, q1, q2, if_true, if_false]
    · simp only [f_M_plan, isSet_M, Option.bind_some, q1, q2, if_true, if_false]
  rcases ix_cases z (n := 6) (by decide) with ⟨most, hm, rfl⟩ | z0 | ⟨z0, z1⟩
  · have hm5 : ¬ (5 : Int32) < nI most := nI_nlt (a := 5) (by omega) (by decide)
    have hmM : ∀ g, f_M_in g (nI most) (0 : Int32) (5 : Int32) = some 1 := fun g => by rw [iM, if_neg (nI_n0 most (by omega)), if_pos (nI_lt hm (by decide))]
    obtain ⟨c1, c2, n, n20, c3, c4⟩ := id rc
    by_cases full : n = 20
    · subst full
      refine ⟨-103, h0, h0, ?_, ?_, Dfr.refl, ⟨rn, rr⟩, rc⟩
      · simp only [f_C_plan, isFacts_C, Option.bind_some, q1, q2, if_false, nI_n0 most (by omega), hm5, gI_n (kk4 hl), c3, show ¬ nI 20 < 20 by decide]
      · rw [show f_M_plan h0 201 x y (nI most) = _ from rfl]
        simp only [f_M_plan, isSet_M, Option.bind_some, q1, q2, if_false, hmM, show ¬ ((1 : Int32) = 0) by decide, gI_n (kk201 hl), c4]
        rw [if_pos (show nI 20 = 20 from rfl)]
    · have q20 : nI n < 20 := nI_lt (b := 20) (by omega) (by decide)
      have q20' : ¬ nI n = 20 := fun e => full (nI_inj (b := 20) (by omega) (by decide) e)
      obtain ⟨a1, e1⟩ : ∃ a1, a1 = uI h0 4 9 (nI (n + 1)) := ⟨_, rfl⟩
      have f1 : Dfr (fun a k => a = 4 ∧ k = 9) h0 a1 := by rw [e1]; exact Dfr.uI (by decide) ⟨rfl, rfl⟩
      have l1 := f1.lay hl
      have p1 : pI 0 h0 4 9 (nI (n + 1)) = some a1 := by rw [e1]; exact pI_n (c := 0) (kk4 hl)
      have rh1 : RHelp a1 hn ha := rh.ag hl.2.2.2.2.2.2 (f1.fr.ag (by unfold FHelp; omega))
      have rl1 : RLev a1 := rl.ag hl.2.2.2.2.2.2 (f1.fr.ag (by unfold FLev; omega))
      have st1 : ∀ a, 206 ≤ a → a ≤ 210 → hI a1 a = hI h0 a := fun a u v => by funext k; exact f1.I (by omega)
      obtain ⟨⟨v, h1⟩, e2, f2, b, R2, P2⟩ := best_C (F := x) (w := y) l1 rh1 rl1 (show most ≤ 5 by omega)
      dsimp only at f2 P2
      have l2 := f2.lay l1
      have C : f_C_plan h0 4 x y (nI most) = some (v, h1) := by
        simp only [f_C_plan, isFacts_C, Option.bind_some, q1, q2, if_false, nI_n0 most (by omega), hm5, gI_n (kk4 hl), c3, q20, if_true, nI_1, p1, gR_n (kk4 l1), LR l1, cv_n (c := 8) (kk107 l1), e2, bd2]
      have f02 : Dfr SPlan h0 h1 := (f1.mono (fun a k z => by unfold SPlan; omega)).trans (f2.mono (fun a k z => z.elim Or.inl (fun z => Or.inr (z.elim Or.inl (fun z => Or.inr (Or.inl z))))))
      have i8 : hI h1 201 8 = nI n := by rw [f2.I (by unfold SPl; omega), f1.I (by omega)]; exact c4
      obtain ⟨m0, e3⟩ : ∃ m0, m0 = uI h1 201 8 (nI (n + 1)) := ⟨_, rfl⟩
      have f3 : Dfr (fun a k => a = 201 ∧ k = 8) h1 m0 := by rw [e3]; exact Dfr.uI (by decide) ⟨rfl, rfl⟩
      have l3 := f3.lay l2
      have p3 : pI 12 h1 201 8 (nI (n + 1)) = some m0 := by rw [e3]; exact pI_n (kk201 l2)
      have rh2 : RHelp h1 hn ha := rh1.ag l1.2.2.2.2.2.2 (f2.fr.ag (by unfold FHelp SPl; omega))
      have rh3 : RHelp m0 hn ha := rh2.ag l2.2.2.2.2.2.2 (f3.fr.ag (by unfold FHelp; omega))
      have st3 : ∀ a, 206 ≤ a → a ≤ 210 → hI m0 a = hI a1 a := fun a u v => by funext k; rw [f3.I (by omega), f2.I (by unfold SPl; omega)]
      have exte : ∀ r L, ext m0 hn most x y (fun _ => 0) 0 r L ↔ ext a1 hn most x y (fun _ => 0) 0 r L := fun r L => by unfold ext; rw [rowK_st st3]
      have f03 : Dfr SPlan h0 m0 := f02.trans (f3.mono (fun a k z => by unfold SPlan; omega))
      have cnt2 : ∀ g, Dfr (fun a k => SPm a k ∨ (a = 201 ∧ k = 15) ∨ a = 211) m0 g → RCnt g := by
        intro g f
        have o : ∀ a k, (a = 4 ∧ (k = 6 ∨ k = 7)) ∨ (a = 201 ∧ (k = 6 ∨ k = 7)) → hI g a k = hI h0 a k := fun a k z => by
          rw [f.I (by unfold SPm; omega), f3.I (by omega), f2.I (by unfold SPl; omega), f1.I (by omega)]
        obtain ⟨u, u1, u2, u3⟩ := c1
        obtain ⟨v, v1, v2, v3⟩ := c2
        refine ⟨⟨u, u1, by rw [o 4 6 (by omega)]; exact u2, by rw [o 201 6 (by omega)]; exact u3⟩, ⟨v, v1, by rw [o 4 7 (by omega)]; exact v2, by rw [o 201 7 (by omega)]; exact v3⟩, ⟨n + 1, by omega, ?_, ?_⟩⟩
        · rw [f.I (by unfold SPm; omega), f3.I (by omega), f2.I (by unfold SPl; omega), e1, hI_eq]
        · rw [f.I (by unfold SPm; omega), e3, hI_eq]
      have M : OK (f_M_plan h1 201 x y (nI most)) (fun q => q.1 = v ∧ Dfr SPlan h0 q.2 ∧ (∃ rn', RRow q.2 hn rn') ∧ RCnt q.2) := by
        simp only [f_M_plan, isSet_M, Option.bind_some, q1, q2, if_false, hmM, show ¬ ((1 : Int32) = 0) by decide, gI_n (kk201 l2), i8, q20', nI_1, p3]
        refine lens_M (F := x) (w := y) l3 rh3 (show most ≤ 5 by omega) _ (fun z4 z5 g b' f4 B4 R4 => ?_)
        have l4 := f4.lay l3
        have R4' : Res a1 (ext a1 hn most x y (fun _ => 0) 0) none b' := (R4.st st3).iff exte
        have f04 : Dfr SPlan h0 g := f03.trans (f4.mono (fun a k z => by unfold SPlan; exact Or.inr (Or.inr (Or.inr (Or.inl z)))))
        rcases R2.uni R4' with ⟨rfl, rfl⟩ | ⟨r, r', L, rfl, rfl, X1, X2, ec, er⟩
        · have z4e : z4 = -1 := B4
          rw [if_pos z4e]
          obtain ⟨u1, u2, u3⟩ := P2
          refine OK.mk ⟨z4e.trans u1.symm, f04, ⟨rn, ?_⟩, cnt2 g (f4.mono (fun a k z => Or.inl z))⟩
          obtain ⟨w1, w2, w3, w4⟩ := rr
          refine ⟨w1, ?_, ?_, fun i hi => ?_⟩
          · rw [f4.I (by unfold SPm; omega), f3.I (by omega), u2, f1.I (by omega)]; exact w2
          · rw [f4.I (by unfold SPm; omega), f3.I (by omega), f2.I (by unfold SPl; omega), f1.I (by omega)]; exact w3
          · rw [f4.I (a := 110) (by unfold SPm; omega), f3.I (a := 110) (by omega), u3 i, f1.I (a := 110) (by omega), f4.I (a := 211) (by unfold SPm; omega), f3.I (a := 211) (by omega), f2.I (a := 211) (by unfold SPl; omega), f1.I (a := 211) (by omega)]
            exact w4 i hi
        · obtain ⟨b1, b2, b3, b4, b5, b6⟩ := B4
          dsimp only at b1 b2 b3 b4 b5 b6
          obtain ⟨u0, u1, u2, u3, u4⟩ := P2
          dsimp only at u0 u1 u2 u3 u4
          rw [if_neg (fun z => m1_nI (by omega) (b1.symm.trans z)), b2]
          obtain ⟨g5, e5⟩ : ∃ g5, g5 = uI g 201 15 (nI L) := ⟨_, rfl⟩
          have f5 : Dfr (fun a k => a = 201 ∧ k = 15) g g5 := by rw [e5]; exact Dfr.uI (by decide) ⟨rfl, rfl⟩
          have l5 := f5.lay l4
          have p5 : pI 12 g 201 15 (nI L) = some g5 := by rw [e5]; exact pI_n (kk201 l4)
          simp only [p5, Option.bind_some]
          refine (back_row (r := r') l5 b4 (fun i hi => by rw [f5.I (by omega)]; exact b6 i hi) z4).mono (fun q ⟨y1, y2, y3⟩ => ⟨?_, ?_, ⟨L, ?_⟩, ?_⟩)
          · rw [y1, u2, b1, ec, cst_st st3]
          · exact f04.trans ((f5.mono (fun a k z => by unfold SPlan; omega)).trans (y2.mono (fun a k z => by unfold OnC at z; unfold SPlan; omega)))
          · refine ⟨b4, ?_, ?_, fun i hi => ?_⟩
            · rw [y2.I (by unfold OnC; omega), f5.I (by omega), f4.I (by unfold SPm; omega), f3.I (by omega)]; exact u3
            · rw [y2.I (by unfold OnC; omega), e5, hI_eq]
            · rw [y3 i hi, y2.I (by unfold OnC; omega), f5.I (by omega), f4.I (by unfold SPm; omega), f3.I (by omega), u4 i hi, er i hi]
              exact ⟨rfl, r' i, X2.2.2.2.1 i hi, rfl⟩
          · exact cnt2 _ ((f4.mono (fun a k z => Or.inl z)).trans ((f5.mono (fun a k z => Or.inr (Or.inl z))).trans (y2.mono (fun a k z => Or.inr (Or.inr z)))))
      obtain ⟨⟨v', h2⟩, e, q, f, R, Cn⟩ := M
      dsimp only at q f R Cn
      subst q
      exact ⟨v', h1, h2, C, e, f, R, Cn⟩
  · refine ⟨-102, h0, h0, ?_, ?_, Dfr.refl, ⟨rn, rr⟩, rc⟩
    · simp only [f_C_plan, isFacts_C, Option.bind_some, q1, q2, if_false, z0, if_true]
    · simp only [f_M_plan, isSet_M, Option.bind_some, q1, q2, if_false, iM, z0, if_true]
  · have z5 : (5 : Int32) < z := (lt_nI (n := 5) (by decide) z).mpr z1
    refine ⟨-102, h0, h0, ?_, ?_, Dfr.refl, ⟨rn, rr⟩, rc⟩
    · simp only [f_C_plan, isFacts_C, Option.bind_some, q1, q2, if_false, z0, z5, if_true]
    · simp only [f_M_plan, isSet_M, Option.bind_some, q1, q2, if_false, iM, z0, z1, if_true]
end PM
