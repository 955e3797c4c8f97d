/-! a reading as its talk needs it; is it twofold -/
def nxs (P : PSt) (s : Nat) : Nat := if s = 0 then (P.2.1 0).1.2.2.1 else P.2.2.2 s
def fol (P : PSt) (s j : Nat) : Bool := (nxs P s).testBit (j - 1)
def kd (P : PSt) (j : Nat) : Nat := 8 * (P.2.2.1 j).1 + (P.2.2.1 j).2
def kM (P : PSt) (j : Nat) : Nat := 2 * (P.2.2.1 j).2 + (P.2.2.1 j).1
def TwS (P : PSt) (s : Nat) : Prop := ∃ i j, 1 ≤ i ∧ i < j ∧ j ≤ P.1.2.1 ∧ fol P s i = true ∧ fol P s j = true ∧ kd P i = kd P j
def Tw (P : PSt) : Prop := ∃ s, s ≤ P.1.2.1 ∧ TwS P s
def RdC (g : AH) (P : PSt) : Prop := hI g 5 4 = nI P.1.2.1 ∧ hJ g 10 3 = lN (2 * (P.2.1 0).1.2.2.1) ∧ hJ g 10 4 = lN (2 * (P.2.1 0).1.2.2.2) ∧ hI g 10 5 = bI (P.2.1 0).2.1 ∧ ∀ s, 1 ≤ s → s ≤ P.1.2.1 → hI g 8 s = nI (kd P s) ∧ hJ g 9 s = lN (2 * P.2.2.2 s)
def RdM (g : AH) (P : PSt) : Prop := hI g 201 30 = nI P.1.2.1 ∧ hJ g 217 0 = lN (P.2.1 0).1.2.2.1 ∧ hJ g 218 0 = lN (P.2.1 0).1.2.2.2 ∧ hI g 216 0 = bI (P.2.1 0).2.1 ∧ ∀ s, 1 ≤ s → s ≤ P.1.2.1 → hI g 222 (s - 1) = nI (kM P s) ∧ hJ g 223 (s - 1) = lN (P.2.2.2 s)
def PK (P : PSt) : Prop := P.1.2.1 ≤ 40 ∧ ∀ s, 1 ≤ s → s ≤ P.1.2.1 → (P.2.2.1 s).1 < 2 ∧ (P.2.2.1 s).2 < 8
section TW
variable {h g : AH} {P : PSt}
theorem lvl0 (hl : Lay g) : hK g 10 = (105, 0) ∧ rR 5 g 7 (0 : Int32) = some (some 10) := lvl hl (i := 0) (by decide)
theorem nstep_C (hl : Lay g) (R : RdC g P) (k : PK P) {s : Nat} (hs : s ≤ P.1.2.1) : f_Pa_nextSteps g 5 (nI s) = some (lN (2 * nxs P s)) := by
  obtain ⟨k1, k2⟩ := lvl0 hl
  have := k.1
  unfold f_Pa_nextSteps nxs
  by_cases z : s = 0
  · subst z
    rw [if_pos (show nI 0 = 0 from rfl), if_pos rfl, gR_n (c := 7) (kk5 hl), ob_v]
    simp only [LR hl, ob_v]
    rw [k2, ob_v, ob_v, gJ_n (c := 5) k1, ob_v, R.2.1]
  · rw [if_neg (nI_ne0 (by omega) (by omega)), if_neg z, gR_n (c := 7) (kk5 hl), ob_v]
    simp only [LR hl, ob_v]
    rw [rJ_n (kk9 hl) (show s < 41 by omega) (by decide), ob_v, (R.2.2.2.2 s (by omega) hs).2]
theorem nset_M (hl : Lay g) (R : RdM g P) (k : PK P) {s : Nat} (hs : s ≤ P.1.2.1) : f_M_nextSet g 201 (nI s) = some (lN (nxs P s)) := by
  have := k.1
  unfold f_M_nextSet nxs
  by_cases z : s = 0
  · subst z
    rw [if_pos (show nI 0 = 0 from rfl), if_pos rfl, gR_n (kk201 hl), ob_v]
    simp only [LR hl, ob_v]
    rw [show rJ g 217 (0 : Int32) = some (hJ g 217 0) from rJ_n (j := 0) (kk217 hl) (by decide) (by decide), ob_v, R.2.1]
  · rw [if_neg (nI_ne0 (by omega) (by omega)), if_neg z, gR_n (kk201 hl), ob_v]
    simp only [LR hl, ob_v]
    rw [show nI s - 1 = nI (s - 1) from pk_sub (a := s) (b := 1) (by omega), rJ_n (kk223 hl) (show s - 1 < 40 by omega) (by decide), ob_v, (R.2.2.2.2 s (by omega) hs).2]
theorem bit_C {X j : Nat} (h1 : 1 ≤ j) (h2 : j < 63) : (lg_cmp ((xlshr (lN (2 * X)) (nI j)) &&& (1 : Int64)) (0 : Int64) = 0) ↔ X.testBit (j - 1) = false := by
  rw [lbit h2, tb2 h1, lg_eq]
  cases X.testBit (j - 1) <;> decide
theorem bit_M {X j : Nat} (h2 : j < 63) : (lg_cmp ((xlshr (lN X) (nI j)) &&& (1 : Int64)) (1 : Int64) = 0) ↔ X.testBit j = true := by
  rw [lbit h2, lg_eq]
  cases X.testBit j <;> decide
theorem tb_or {A k i : Nat} : (A ||| 2 ^ k).testBit i = true ↔ (A.testBit i = true ∨ i = k) := by
  rw [Nat.testBit_or, Nat.testBit_two_pow, Bool.or_eq_true, decide_eq_true_iff]
  exact ⟨fun z => z.imp_right Eq.symm, fun z => z.imp_right Eq.symm⟩
theorem two_C (hl : Lay g) (R : RdC g P) (k : PK P) : (Tw P → f_Pa_isTwofold g 5 = some 1) ∧ (¬ Tw P → f_Pa_isTwofold g 5 = some 0) := by
  have n40 := k.1
  have k16 : ∀ i, 1 ≤ i → i ≤ P.1.2.1 → kd P i < 16 := fun i a b => by have := k.2 i a b; unfold kd; omega
  have inner : ∀ s, s ≤ P.1.2.1 → ∀ K : Option Int32, ∀ d j N A, j + d = P.1.2.1 + 1 → 1 ≤ j → d < N → A < 2 ^ 16 → (∀ κ, A.testBit κ = true ↔ ∃ i, 1 ≤ i ∧ i < j ∧ fol P s i = true ∧ kd P i = κ) → (∀ i i', 1 ≤ i → i < i' → i' < j → fol P s i = true → fol P s i' = true → ¬ kd P i = kd P i') → (TwS P s → f_Pa_isTwofold_L14 g 5 (nI s) K N (nI A) (nI j) = some 1) ∧ (¬ TwS P s → f_Pa_isTwofold_L14 g 5 (nI s) K N (nI A) (nI j) = K) := by
    intro s hs K d
    induction d with
    | zero =>
      intro j N A h1 h2 h3 hA i1 i2
      obtain ⟨N, rfl⟩ : ∃ q, N = q + 1 := ⟨N - 1, by omega⟩
      rw [f_Pa_isTwofold_L14, gI_n (c := 7) (kk5 hl), R.1, ob_v, if_pos (nI_lt (show P.1.2.1 < j by omega) (by omega))]
      exact ⟨fun ⟨a, b, q1, q2, q3, q4, q5, q6⟩ => absurd q6 (i2 a b q1 q2 (by omega) q4 q5), fun _ => rfl⟩
    | succ d ih =>
      intro j N A h1 h2 h3 hA i1 i2
      obtain ⟨N, rfl⟩ : ∃ q, N = q + 1 := ⟨N - 1, by omega⟩
      rw [f_Pa_isTwofold_L14, gI_n (c := 7) (kk5 hl), R.1, ob_v, if_neg (nI_nlt (show j ≤ P.1.2.1 by omega) (by omega)), cv_n (c := 7) (kk5 hl), nstep_C hl R k hs, ob_v]
      have bb := bit_C (X := nxs P s) h2 (show j < 63 by omega)
      by_cases q : fol P s j = true
      · rw [if_neg (fun z => by have := bb.mp z; unfold fol at q; rw [this] at q; cases q)]
        simp only [gR_n (c := 7) (kk5 hl), LR hl, ob_v, rI_n (kk8 hl) (show j < 41 by omega) (by decide), (R.2.2.2.2 j h2 (by omega)).1]
        have kj := k16 j h2 (by omega)
        have b0 := bit_0 (n := A) (i := kd P j) (by omega) (by omega)
        unfold f_C_hasBit
        by_cases w : A.testBit (kd P j) = true
        · rw [if_neg (fun z => by rw [b0.mp z] at w; cases w), ob_v, if_neg (show ¬ (1 : Int32) = 0 by decide)]
          refine ⟨fun _ => rfl, fun z => absurd ?_ z⟩
          obtain ⟨i, c1, c2, c3, c4⟩ := (i1 _).mp w
          exact ⟨i, j, c1, c2, by omega, c3, q, c4⟩
        · have w' : A.testBit (kd P j) = false := by simpa using w
          rw [if_pos (b0.mpr w'), ob_v, if_pos rfl, shl1 (by omega), nI_or, nI_1]
          refine ih (j + 1) N (A ||| 2 ^ kd P j) (by omega) (by omega) (by omega) (or_lt hA (Nat.pow_lt_pow_right (by decide) kj)) (fun κ => ?_) (fun i i' c1 c2 c3 c4 c5 c6 => ?_)
          · rw [tb_or, i1]
            constructor
            · rintro (⟨i, c1, c2, c3, c4⟩ | c)
              · exact ⟨i, c1, by omega, c3, c4⟩
              · exact ⟨j, h2, by omega, q, c.symm⟩
            · rintro ⟨i, c1, c2, c3, c4⟩
              by_cases e : i = j
              · right; rw [← c4, e]
              · left; exact ⟨i, c1, by omega, c3, c4⟩
          · by_cases e : i' = j
            · subst e
              exact w ((i1 _).mpr ⟨i, c1, by omega, c4, c6⟩)
            · exact i2 i i' c1 c2 (by omega) c4 c5 c6
      · have q' : (nxs P s).testBit (j - 1) = false := by unfold fol at q; simpa using q
        rw [if_pos (bb.mpr q'), nI_1]
        refine ih (j + 1) N A (by omega) (by omega) (by omega) hA (fun κ => ?_) (fun i i' c1 c2 c3 c4 c5 => ?_)
        · rw [i1]
          constructor
          · rintro ⟨i, c1, c2, c3, c4⟩
            exact ⟨i, c1, by omega, c3, c4⟩
          · rintro ⟨i, c1, c2, c3, c4⟩
            by_cases e : i = j
            · subst e; exact absurd c3 q
            · exact ⟨i, c1, by omega, c3, c4⟩
        · by_cases e : i' = j
          · subst e; exact absurd c5 q
          · exact i2 i i' c1 c2 (by omega) c4 c5
  have outer : ∀ d s N, s + d = P.1.2.1 + 1 → d < N → (∀ s', s' < s → ¬ TwS P s') → (Tw P → f_Pa_isTwofold_L2 g 5 N (nI s) = some 1) ∧ (¬ Tw P → f_Pa_isTwofold_L2 g 5 N (nI s) = some 0) := by
    intro d
    induction d with
    | zero =>
      intro s N h1 h2 no
      obtain ⟨N, rfl⟩ : ∃ q, N = q + 1 := ⟨N - 1, by omega⟩
      rw [f_Pa_isTwofold_L2, gI_n (c := 7) (kk5 hl), R.1, ob_v, if_pos (nI_lt (show P.1.2.1 < s by omega) (by omega))]
      exact ⟨fun ⟨s', a, b⟩ => absurd b (no s' (by omega)), fun _ => rfl⟩
    | succ d ih =>
      intro s N h1 h2 no
      obtain ⟨N, rfl⟩ : ∃ q, N = q + 1 := ⟨N - 1, by omega⟩
      rw [f_Pa_isTwofold_L2, gI_n (c := 7) (kk5 hl), R.1, ob_v, if_neg (nI_nlt (show s ≤ P.1.2.1 by omega) (by omega)), nI_1]
      obtain ⟨a, b⟩ := inner s (by omega) (f_Pa_isTwofold_L2 g 5 N (nI (s + 1))) P.1.2.1 1 FU 0 (by omega) (by omega) (by unfold FU; omega) (by decide) (fun κ => ⟨fun z => (by rw [Nat.zero_testBit] at z; cases z), fun ⟨i, c1, c2, _⟩ => by omega⟩) (fun i i' c1 c2 c3 => by omega)
      by_cases q : TwS P s
      · exact ⟨fun _ => a q, fun z => absurd ⟨s, by omega, q⟩ z⟩
      · have := b q
        rw [show f_Pa_isTwofold_L14 g 5 (nI s) (f_Pa_isTwofold_L2 g 5 N (nI (s + 1))) FU (0 : Int32) (1 : Int32) = f_Pa_isTwofold_L2 g 5 N (nI (s + 1)) from this]
        refine ih (s + 1) N (by omega) (by omega) (fun s' c => ?_)
        by_cases e : s' = s
        · rw [e]; exact q
        · exact no s' (by omega)
  exact outer (P.1.2.1 + 1) 0 FU (by omega) (by unfold FU; omega) (fun s' c => by omega)
theorem two_M (hl : Lay g) (R : RdM g P) (k : PK P) : (Tw P → f_M_isTwofold g 201 = some 1) ∧ (¬ Tw P → f_M_isTwofold g 201 = some 0) := by
  have n40 := k.1
  have k16 : ∀ i, 1 ≤ i → i ≤ P.1.2.1 → kM P i < 16 := fun i a b => by have := k.2 i a b; unfold kM; omega
  have same : ∀ i j, 1 ≤ i → i ≤ P.1.2.1 → 1 ≤ j → j ≤ P.1.2.1 → (kM P i = kM P j ↔ kd P i = kd P j) := fun i j a b c d => by have := k.2 i a b; have := k.2 j c d; unfold kM kd; omega
  have inner : ∀ s, s ≤ P.1.2.1 → ∀ K : Option Int32, ∀ d j N A, j + d = P.1.2.1 → d < N → A < 2 ^ 16 → (∀ κ, A.testBit κ = true ↔ ∃ i, 1 ≤ i ∧ i ≤ j ∧ fol P s i = true ∧ kM P i = κ) → (∀ i i', 1 ≤ i → i < i' → i' ≤ j → fol P s i = true → fol P s i' = true → ¬ kM P i = kM P i') → (TwS P s → f_M_isTwofold_L14 g 201 (nI s) K N (nI A) (nI j) = some 1) ∧ (¬ TwS P s → f_M_isTwofold_L14 g 201 (nI s) K N (nI A) (nI j) = K) := by
    intro s hs K d
    induction d with
    | zero =>
      intro j N A h1 h3 hA i1 i2
      obtain ⟨N, rfl⟩ : ∃ q, N = q + 1 := ⟨N - 1, by omega⟩
      rw [f_M_isTwofold_L14, gI_n (kk201 hl), R.1, ob_v, if_neg (nI_nlt (show P.1.2.1 ≤ j by omega) (by omega))]
      exact ⟨fun ⟨a, b, q1, q2, q3, q4, q5, q6⟩ => absurd ((same a b q1 (by omega) (by omega) q3).mpr q6) (i2 a b q1 q2 (by omega) q4 q5), fun _ => rfl⟩
    | succ d ih =>
      intro j N A h1 h3 hA i1 i2
      obtain ⟨N, rfl⟩ : ∃ q, N = q + 1 := ⟨N - 1, by omega⟩
      rw [f_M_isTwofold_L14, gI_n (kk201 hl), R.1, ob_v, if_pos (nI_lt (show j < P.1.2.1 by omega) (by omega)), cv_n (kk201 hl), nset_M hl R k hs, ob_v]
      have bb := bit_M (X := nxs P s) (show j < 63 by omega)
      by_cases q : fol P s (j + 1) = true
      · rw [if_pos (bb.mpr q)]
        have rj := (R.2.2.2.2 (j + 1) (by omega) (by omega)).1
        rw [Nat.add_sub_cancel] at rj
        simp only [gR_n (kk201 hl), LR hl, ob_v, rI_n (kk222 hl) (show j < 40 by omega) (by decide), rj]
        have kj := k16 (j + 1) (by omega) (by omega)
        have b0 := bit_0 (n := A) (i := kM P (j + 1)) (by omega) (by omega)
        have b1 : ((nI A >>> (nI (kM P (j + 1)) &&& 31)) &&& 1) = 1 ↔ A.testBit (kM P (j + 1)) = true := by
          constructor
          · intro z
            cases w : A.testBit (kM P (j + 1)) with
            | true => rfl
            | false => rw [b0.mpr w] at z; exact absurd z (by decide)
          · intro w
            have e := bit_nI (n := A) (i := kM P (j + 1)) (by omega) (by omega)
            have l2 : A / 2 ^ kM P (j + 1) % 2 < 2 := Nat.mod_lt _ (by decide)
            have : ¬ A / 2 ^ kM P (j + 1) % 2 = 0 := fun z => by
              rw [z] at e; rw [b0.mp e] at w; cases w
            rw [e, show A / 2 ^ kM P (j + 1) % 2 = 1 by omega]; rfl
        by_cases w : A.testBit (kM P (j + 1)) = true
        · rw [if_pos (b1.mpr w)]
          refine ⟨fun _ => rfl, fun z => absurd ?_ z⟩
          obtain ⟨i, c1, c2, c3, c4⟩ := (i1 _).mp w
          exact ⟨i, j + 1, c1, by omega, by omega, c3, q, (same i (j + 1) c1 (by omega) (by omega) (by omega)).mp c4⟩
        · rw [if_neg (fun z => w (b1.mp z)), shl1 (by omega), nI_or, nI_1]
          refine ih (j + 1) N (A ||| 2 ^ kM P (j + 1)) (by omega) (by omega) (or_lt hA (Nat.pow_lt_pow_right (by decide) kj)) (fun κ => ?_) (fun i i' c1 c2 c3 c4 c5 c6 => ?_)
          · rw [tb_or, i1]
            constructor
            · rintro (⟨i, c1, c2, c3, c4⟩ | c)
              · exact ⟨i, c1, by omega, c3, c4⟩
              · exact ⟨j + 1, by omega, by omega, q, c.symm⟩
            · rintro ⟨i, c1, c2, c3, c4⟩
              by_cases e : i = j + 1
              · right; rw [← c4, e]
              · left; exact ⟨i, c1, by omega, c3, c4⟩
          · by_cases e : i' = j + 1
            · subst e
              exact w ((i1 _).mpr ⟨i, c1, by omega, c4, c6⟩)
            · exact i2 i i' c1 c2 (by omega) c4 c5 c6
      · rw [if_neg (fun z => q (bb.mp z)), nI_1]
        refine ih (j + 1) N A (by omega) (by omega) hA (fun κ => ?_) (fun i i' c1 c2 c3 c4 c5 => ?_)
        · rw [i1]
          constructor
          · rintro ⟨i, c1, c2, c3, c4⟩
            exact ⟨i, c1, by omega, c3, c4⟩
          · rintro ⟨i, c1, c2, c3, c4⟩
            by_cases e : i = j + 1
            · subst e; exact absurd c3 q
            · exact ⟨i, c1, by omega, c3, c4⟩
        · by_cases e : i' = j + 1
          · subst e; exact absurd c5 q
          · exact i2 i i' c1 c2 (by omega) c4 c5
  have outer : ∀ d s N, s + d = P.1.2.1 + 1 → d < N → (∀ s', s' < s → ¬ TwS P s') → (Tw P → f_M_isTwofold_L2 g 201 N (nI s) = some 1) ∧ (¬ Tw P → f_M_isTwofold_L2 g 201 N (nI s) = some 0) := by
    intro d
    induction d with
    | zero =>
      intro s N h1 h2 no
      obtain ⟨N, rfl⟩ : ∃ q, N = q + 1 := ⟨N - 1, by omega⟩
      rw [f_M_isTwofold_L2, gI_n (kk201 hl), R.1, ob_v, if_pos (nI_lt (show P.1.2.1 < s by omega) (by omega))]
      exact ⟨fun ⟨s', a, b⟩ => absurd b (no s' (by omega)), fun _ => rfl⟩
    | succ d ih =>
      intro s N h1 h2 no
      obtain ⟨N, rfl⟩ : ∃ q, N = q + 1 := ⟨N - 1, by omega⟩
      rw [f_M_isTwofold_L2, gI_n (kk201 hl), R.1, ob_v, if_neg (nI_nlt (show s ≤ P.1.2.1 by omega) (by omega)), nI_1]
      obtain ⟨a, b⟩ := inner s (by omega) (f_M_isTwofold_L2 g 201 N (nI (s + 1))) P.1.2.1 0 FU 0 (by omega) (by unfold FU; omega) (by decide) (fun κ => ⟨fun z => (by rw [Nat.zero_testBit] at z; cases z), fun ⟨i, c1, c2, _⟩ => by omega⟩) (fun i i' c1 c2 c3 => by omega)
      by_cases q : TwS P s
      · exact ⟨fun _ => a q, fun z => absurd ⟨s, by omega, q⟩ z⟩
      · have := b q
        rw [show f_M_isTwofold_L14 g 201 (nI s) (f_M_isTwofold_L2 g 201 N (nI (s + 1))) FU (0 : Int32) (0 : Int32) = f_M_isTwofold_L2 g 201 N (nI (s + 1)) from this]
        refine ih (s + 1) N (by omega) (by omega) (fun s' c => ?_)
        by_cases e : s' = s
        · rw [e]; exact q
        · exact no s' (by omega)
  exact outer (P.1.2.1 + 1) 0 FU (by omega) (by unfold FU; omega) (fun s' c => by omega)
end TW
