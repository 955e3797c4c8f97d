/-! THE TALK OF A READING, as both make it -/
def tnx (P : PSt) (s k : Nat) : Nat → Int32
  | 0 => -1
  | j + 1 => if fol P s (j + 1) = true ∧ kd P (j + 1) = k then nI (j + 1) else tnx P s k j
def tend (P : PSt) (s : Nat) : Bool := if s = 0 then (P.2.1 0).2.1 else (P.2.1 0).1.2.2.2.testBit (s - 1)
def hrT (P : PSt) (s c : Nat) : Nat := msk (fun m => decide (¬ tnx P s m c = -1)) 8
def syT (P : PSt) (s c : Nat) : Nat := msk (fun m => decide (¬ tnx P s (8 + m) c = -1)) 8
theorem nI_nm1 {j : Nat} (hj : j < 2 ^ 31) : ¬ nI j = -1 := fun e => by
  have h1 := congrArg Int32.toInt e
  rw [nI_toInt hj] at h1
  have h2 : (-1 : Int32).toInt = -1 := rfl
  omega
theorem msk_ext {f f' : Nat → Bool} {n : Nat} (h : ∀ i, i < n → f i = f' i) : msk f n = msk f' n := by
  apply Nat.eq_of_testBit_eq
  intro i
  rw [msk_bit, msk_bit]
  by_cases q : i < n
  · rw [h i q]
  · simp [q]
theorem msk_set {f f' : Nat → Bool} {n κ : Nat} (hκ : κ < n) (h1 : f' κ = true) (h2 : ∀ i, i < n → ¬ i = κ → f' i = f i) : msk f' n = msk f n ||| 2 ^ κ := by
  apply Nat.eq_of_testBit_eq
  intro i
  rw [Nat.testBit_or, msk_bit, msk_bit, Nat.testBit_two_pow]
  by_cases e : κ = i
  · subst e; simp [hκ, h1]
  · by_cases q : i < n
    · rw [h2 i q (fun z => e z.symm)]; simp [q, e]
    · simp [q, e]
section TT
variable {P : PSt} {s k c : Nat}
theorem tnx_no (q : ¬ fol P s (c + 1) = true) : tnx P s k (c + 1) = tnx P s k c := if_neg (fun z => q z.1)
theorem tnx_ne (q : ¬ kd P (c + 1) = k) : tnx P s k (c + 1) = tnx P s k c := if_neg (fun z => q z.2)
theorem tnx_yes (q : fol P s (c + 1) = true) : tnx P s (kd P (c + 1)) (c + 1) = nI (c + 1) := if_pos ⟨q, rfl⟩
theorem tnx_r (P : PSt) (s k : Nat) : ∀ c, tnx P s k c = -1 ∨ ∃ j, 1 ≤ j ∧ j ≤ c ∧ tnx P s k c = nI j
  | 0 => Or.inl rfl
  | c + 1 => by
    by_cases q : fol P s (c + 1) = true ∧ kd P (c + 1) = k
    · exact Or.inr ⟨c + 1, by omega, by omega, if_pos q⟩
    · rw [show tnx P s k (c + 1) = tnx P s k c from if_neg q]
      rcases tnx_r P s k c with z | ⟨j, a, b, e⟩
      · exact Or.inl z
      · exact Or.inr ⟨j, a, by omega, e⟩
theorem hrT_no (q : ¬ fol P s (c + 1) = true) : hrT P s (c + 1) = hrT P s c := msk_ext (fun i _ => by rw [tnx_no q])
theorem syT_no (q : ¬ fol P s (c + 1) = true) : syT P s (c + 1) = syT P s c := msk_ext (fun i _ => by rw [tnx_no q])
theorem hrT_hi (q : 8 ≤ kd P (c + 1)) : hrT P s (c + 1) = hrT P s c := msk_ext (fun i hi => by rw [tnx_ne (by omega)])
theorem syT_lo (q : kd P (c + 1) < 8) : syT P s (c + 1) = syT P s c := msk_ext (fun i hi => by rw [tnx_ne (by omega)])
theorem hrT_set (hc : c < 1000) (q : fol P s (c + 1) = true) (l : kd P (c + 1) < 8) : hrT P s (c + 1) = hrT P s c ||| 2 ^ kd P (c + 1) :=
  msk_set l (by rw [tnx_yes q]; simp [nI_nm1 (show c + 1 < 2 ^ 31 by omega)]) (fun i _ ne => by rw [tnx_ne (fun z => ne z.symm)])
theorem syT_set (hc : c < 1000) (q : fol P s (c + 1) = true) (l : 8 ≤ kd P (c + 1)) (l2 : kd P (c + 1) < 16) : syT P s (c + 1) = syT P s c ||| 2 ^ (kd P (c + 1) - 8) :=
  msk_set (by omega) (by rw [show 8 + (kd P (c + 1) - 8) = kd P (c + 1) by omega, tnx_yes q]; simp [nI_nm1 (show c + 1 < 2 ^ 31 by omega)]) (fun i _ ne => by rw [tnx_ne (by omega)])
end TT
def Trow (P : PSt) (M : Nat) (g : AH) (s c : Nat) : Prop := (∀ k, k < 16 → hI g (M + 1) (16 * s + k) = tnx P s k c) ∧ hI g (M + 2) s = nI (hrT P s c) ∧ hI g (M + 3) s = nI (syT P s c)
def TKs (M n : Nat) (g : AH) : Prop := (hK g M = (109, 0) ∧ hK g (M + 1) = (1, 16 * (n + 1)) ∧ hK g (M + 2) = (1, n + 1) ∧ hK g (M + 3) = (1, n + 1)) ∧ (hR g M 2 = some (M + 1) ∧ hR g M 3 = some (M + 2) ∧ hR g M 4 = some (M + 3)) ∧ hI g M 0 = nI n
def STn (M a k : Nat) : Prop := (a = M ∧ k = 1) ∨ a = M + 1 ∨ a = M + 2 ∨ a = M + 3
def STr (M s a k : Nat) : Prop := (a = M + 1 ∧ 16 * s ≤ k ∧ k < 16 * s + 16) ∨ ((a = M + 2 ∨ a = M + 3) ∧ k = s)
section TC
variable {P : PSt} {b g : AH} {M n : Nat}
theorem TKs.fr (T : TKs M n b) (f : Dfr (STn M) b g) : TKs M n g := by
  obtain ⟨⟨a1, a2, a3, a4⟩, ⟨r1, r2, r3⟩, v⟩ := T
  exact ⟨⟨by rw [f.K]; exact a1, by rw [f.K]; exact a2, by rw [f.K]; exact a3, by rw [f.K]; exact a4⟩, ⟨by rw [f.R]; exact r1, by rw [f.R]; exact r2, by rw [f.R]; exact r3⟩, by rw [f.I (by unfold STn; omega)]; exact v⟩
theorem RdC.fr (R : RdC b P) (hM : 237 ≤ M) (f : Dfr (STn M) b g) : RdC g P := by
  obtain ⟨a1, a2, a3, a4, a5⟩ := R
  refine ⟨by rw [f.I (by unfold STn; omega)]; exact a1, by rw [f.J (by unfold STn; omega)]; exact a2, by rw [f.J (by unfold STn; omega)]; exact a3, by rw [f.I (by unfold STn; omega)]; exact a4, fun s h1 h2 => ?_⟩
  rw [f.I (by unfold STn; omega), f.J (by unfold STn; omega)]
  exact a5 s h1 h2
theorem addT_C (h4 : 4 ≤ M) (T : TKs M n g) {s c : Nat} (hs : s ≤ n) (n24 : n ≤ 24) (hc : c < 1000) (k16 : kd P (c + 1) < 16) (q : fol P s (c + 1) = true) (R : Trow P M g s c) : ∃ g', f_Ta_addStep g M (nI s) (nI (kd P (c + 1))) (nI (c + 1)) = some g' ∧ Dfr (STr M s) g g' ∧ Trow P M g' s (c + 1) := by
  obtain ⟨⟨a1, a2, a3, a4⟩, ⟨r1, r2, r3⟩, v⟩ := T
  obtain ⟨R1, R2, R3⟩ := R
  obtain ⟨κ, eκ⟩ : ∃ κ, κ = kd P (c + 1) := ⟨_, rfl⟩
  obtain ⟨g1, e1⟩ : ∃ g1, g1 = uI g (M + 1) (16 * s + κ) (nI (c + 1)) := ⟨_, rfl⟩
  have f1 : Dfr (STr M s) g g1 := by rw [e1]; exact Dfr.uI (by omega) (by unfold STr; omega)
  have b1 : hK g1 M = (109, 0) := by rw [f1.K]; exact a1
  have b3 : hK g1 (M + 2) = (1, n + 1) := by rw [f1.K]; exact a3
  have b4 : hK g1 (M + 3) = (1, n + 1) := by rw [f1.K]; exact a4
  have w1 : wI g (M + 1) (nI (16 * s + κ)) (nI (c + 1)) = some g1 := by rw [e1]; exact wI_n (by omega) a2 (by omega) (by omega)
  have u2 : hI g1 (M + 2) s = nI (hrT P s c) := by rw [e1, hI_ne (by omega)]; exact R2
  have u3 : hI g1 (M + 3) s = nI (syT P s c) := by rw [e1, hI_ne (by omega)]; exact R3
  have row : ∀ g' : AH, (∀ k, hI g' (M + 1) k = hI g1 (M + 1) k) → ∀ k, k < 16 → hI g' (M + 1) (16 * s + k) = tnx P s k (c + 1) := by
    intro g' e k hk
    rw [e, e1]
    by_cases z : k = κ
    · subst z; rw [hI_eq, eκ, tnx_yes q]
    · rw [hI_ne (by omega), R1 k hk, tnx_ne (by omega)]
  unfold f_Ta_addStep
  rw [← eκ, gR_n (c := 9) a1, ob_v, r1, ob_v, show (16 : Int32) = nI 16 from rfl, pk_mul, nI_add, show s * 16 + κ = 16 * s + κ by omega, w1, ob_v]
  by_cases l : κ < 8
  · rw [if_pos (show nI κ < 8 from nI_lt (b := 8) l (by decide)), gR_n (c := 9) b1, ob_v, f1.R, r2, ob_v, rI_n b3 (show s < n + 1 by omega) (by omega), ob_v, u2, shl1 (by omega), nI_or, wI_n (by omega) b3 (show s < n + 1 by omega) (by omega), ob_v]
    refine ⟨_, rfl, f1.trans (Dfr.uI (by omega) (by unfold STr; omega)), row _ (fun k => hI_ne (by omega)), ?_, ?_⟩
    · rw [hI_eq, hrT_set hc q (by omega), ← eκ]
    · rw [hI_ne (by omega), u3, syT_lo (by omega)]
  · rw [if_neg (show ¬ nI κ < 8 from nI_nlt (b := 8) (by omega) (by omega)), gR_n (c := 9) b1, ob_v, f1.R, r3, ob_v, rI_n b4 (show s < n + 1 by omega) (by omega), ob_v, u3, show (8 : Int32) = nI 8 from rfl, pk_sub (show 8 ≤ κ by omega), shl1 (by omega), nI_or, wI_n (by omega) b4 (show s < n + 1 by omega) (by omega), ob_v]
    refine ⟨_, rfl, f1.trans (Dfr.uI (by omega) (by unfold STr; omega)), row _ (fun k => hI_ne (by omega)), ?_, ?_⟩
    · rw [hI_ne (by omega), u2, hrT_hi (by omega)]
    · rw [hI_eq, syT_set hc q (by omega) (by omega), ← eκ]
theorem Trow.fr {g' : AH} {s s' c : Nat} (R : Trow P M g s' c) (f : Dfr (STr M s) g g') (ne : ¬ s' = s) : Trow P M g' s' c := by
  obtain ⟨R1, R2, R3⟩ := R
  exact ⟨fun k hk => by rw [f.I (by unfold STr; omega)]; exact R1 k hk, by rw [f.I (by unfold STr; omega)]; exact R2, by rw [f.I (by unfold STr; omega)]; exact R3⟩
theorem Trow.no {s c : Nat} (R : Trow P M g s c) (q : ¬ fol P s (c + 1) = true) : Trow P M g s (c + 1) := by
  obtain ⟨R1, R2, R3⟩ := R
  exact ⟨fun k hk => by rw [tnx_no q]; exact R1 k hk, by rw [hrT_no q]; exact R2, by rw [syT_no q]; exact R3⟩
theorem stopT_C (hl : Lay g) (R : RdC g P) (k : PK P) {s : Nat} (hs : s ≤ P.1.2.1) : f_Pa_mayStop g 5 (nI s) = some (bI (tend P s)) := by
  obtain ⟨k1, k2⟩ := lvl0 hl
  have := k.1
  unfold f_Pa_mayStop tend
  by_cases z : s = 0
  · subst z
    rw [if_pos (show nI 0 = 0 from rfl), if_pos rfl, gR_n (c := 7) (kk5 hl), ob_v]
    simp only [LR hl, ob_v]
    rw [k2, ob_v, ob_v, gI_n (c := 5) k1, ob_v, R.2.2.2.1, if_pos (bI01 _)]
  · rw [if_neg (nI_ne0 (by omega) (by omega)), if_neg z, gR_n (c := 7) (kk5 hl), ob_v]
    simp only [LR hl, ob_v]
    rw [k2, ob_v, ob_v, gJ_n (c := 5) k1, ob_v, R.2.2.1]
    have bb := bit_C (X := (P.2.1 0).1.2.2.2) (j := s) (by omega) (by omega)
    cases q : (P.2.1 0).1.2.2.2.testBit (s - 1) with
    | false => rw [if_pos (bb.mpr q)]; rfl
    | true => rw [if_neg (fun z => by rw [bb.mp z] at q; cases q)]; rfl
theorem inner_C (hl : Lay b) (hM : 237 ≤ M) (T : TKs M n b) (R : RdC b P) (pk : PK P) (n24 : n ≤ 24) (en : n = P.1.2.1) {s : Nat} (hs : s ≤ n) {e : Int32} {ρ : Type} {Q : ρ → Prop} {k : AH → Option ρ} (hk : ∀ g', Dfr (STn M) b g' → (∀ s', s' ≤ n → Trow P M g' s' (if s' < s + 1 then n else 0)) → hI g' M 1 = e → OK (k g') Q) : ∀ d j N (g : AH), j + d = n → d < N → Dfr (STn M) b g → (∀ s', s' ≤ n → Trow P M g s' (if s' < s then n else if s' = s then j else 0)) → hI g M 1 = e → OK (f_Ta_init_L111 M 5 (nI s) (lN (2 * nxs P s)) k N (nI (j + 1)) g) Q := by
  intro d
  induction d with
  | zero =>
    intro j N g h1 h2 f Rw v
    obtain ⟨N, rfl⟩ : ∃ q, N = q + 1 := ⟨N - 1, by omega⟩
    have Tg := T.fr f
    rw [f_Ta_init_L111, gI_n (c := 9) Tg.1.1, ob_v, Tg.2.2, if_pos (nI_lt (show n < j + 1 by omega) (by omega))]
    refine hk g f (fun s' hs' => ?_) v
    have := Rw s' hs'
    by_cases c1 : s' < s
    · rw [if_pos c1] at this; rw [if_pos (by omega)]; exact this
    · rw [if_neg c1] at this
      by_cases c2 : s' = s
      · rw [if_pos c2] at this; rw [if_pos (by omega)]; rw [show n = j by omega]; exact this
      · rw [if_neg c2] at this; rw [if_neg (by omega)]; exact this
  | succ d ih =>
    intro j N g h1 h2 f Rw v
    obtain ⟨N, rfl⟩ : ∃ q, N = q + 1 := ⟨N - 1, by omega⟩
    have Tg := T.fr f
    have lg := f.lay hl
    have Rg := R.fr hM f
    rw [f_Ta_init_L111, gI_n (c := 9) Tg.1.1, ob_v, Tg.2.2, if_neg (nI_nlt (show j + 1 ≤ n by omega) (by omega))]
    have bb := bit_C (X := nxs P s) (j := j + 1) (by omega) (by omega)
    have rs : Trow P M g s j := by have := Rw s hs; rwa [if_neg (by omega), if_pos rfl] at this
    by_cases q : fol P s (j + 1) = true
    · rw [if_neg (fun z => by have := bb.mp z; unfold fol at q; rw [this] at q; cases q), gR_n (c := 7) (kk5 lg), ob_v]
      simp only [LR lg, ob_v]
      have kk := pk.2 (j + 1) (by omega) (by omega)
      obtain ⟨g1, e1, f1, r1⟩ := addT_C (n := n) (by omega) Tg hs n24 (show j < 1000 by omega) (by unfold kd; omega) q rs
      rw [rI_n (kk8 lg) (show j + 1 < 41 by omega) (by decide), ob_v, (Rg.2.2.2.2 (j + 1) (by omega) (by omega)).1, cv_n (c := 9) Tg.1.1, e1, ob_v, nI_1]
      refine ih (j + 1) N g1 (by omega) (by omega) (f.trans (f1.mono (fun a k z => by unfold STr at z; unfold STn; omega))) (fun s' hs' => ?_) (by rw [f1.I (by unfold STr; omega)]; exact v)
      have := Rw s' hs'
      by_cases c2 : s' = s
      · subst c2; rw [if_neg (by omega), if_pos rfl]; exact r1
      · rw [if_neg c2] at this ⊢; exact this.fr f1 c2
    · have q' : (nxs P s).testBit (j + 1 - 1) = false := by unfold fol at q; simpa using q
      rw [if_pos (bb.mpr q'), nI_1]
      refine ih (j + 1) N g (by omega) (by omega) f (fun s' hs' => ?_) v
      have := Rw s' hs'
      by_cases c2 : s' = s
      · subst c2; rw [if_neg (by omega), if_pos rfl]; exact rs.no q
      · rw [if_neg c2] at this ⊢; exact this
theorem outer_C (hl : Lay b) (hM : 237 ≤ M) (T : TKs M n b) (R : RdC b P) (pk : PK P) (n24 : n ≤ 24) (en : n = P.1.2.1) : ∀ d s N (g : AH), s + d = n + 1 → d < N → Dfr (STn M) b g → (∀ s', s' ≤ n → Trow P M g s' (if s' < s then n else 0)) → hI g M 1 = nI (msk (tend P) s) → OK (f_Ta_init_L70 M 5 N (nI s) g) (fun g' => Dfr (STn M) b g' ∧ (∀ s', s' ≤ n → Trow P M g' s' n) ∧ hI g' M 1 = nI (msk (tend P) (n + 1))) := by
  intro d
  induction d with
  | zero =>
    intro s N g h1 h2 f Rw v
    obtain ⟨N, rfl⟩ : ∃ q, N = q + 1 := ⟨N - 1, by omega⟩
    have Tg := T.fr f
    rw [f_Ta_init_L70, gI_n (c := 9) Tg.1.1, ob_v, Tg.2.2, if_pos (nI_lt (show n < s by omega) (by omega))]
    refine OK.mk ⟨f, fun s' hs' => ?_, ?_⟩
    · have := Rw s' hs'
      rwa [if_pos (by omega)] at this
    · rw [v, show s = n + 1 by omega]
  | succ d ih =>
    intro s N g h1 h2 f Rw v
    obtain ⟨N, rfl⟩ : ∃ q, N = q + 1 := ⟨N - 1, by omega⟩
    have Tg := T.fr f
    have lg := f.lay hl
    have Rg := R.fr hM f
    obtain ⟨g1, e1⟩ : ∃ g1, g1 = uI g M 1 (nI (msk (tend P) (s + 1))) := ⟨_, rfl⟩
    have f1 : Dfr (fun a k => a = M ∧ k = 1) g g1 := by rw [e1]; exact Dfr.uI (by omega) ⟨rfl, rfl⟩
    have F1 : Dfr (STn M) b g1 := f.trans (f1.mono (fun a k z => Or.inl z))
    have l1 := f1.lay lg
    have R1 := R.fr hM F1
    have x18 : ((if bI (tend P s) = (0 : Int32) then some (0 : Int32) else some ((1 : Int32) <<< (nI s &&& 31))) : Option Int32) = some (nI (if tend P s then 2 ^ s else 0)) := by
      rw [shl1 (by omega)]
      cases tend P s <;> rfl
    rw [f_Ta_init_L70, gI_n (c := 9) Tg.1.1, ob_v, Tg.2.2, if_neg (nI_nlt (show s ≤ n by omega) (by omega)), gI_n (c := 9) Tg.1.1, ob_v, cv_n (c := 7) (kk5 lg), stopT_C lg Rg pk (by omega), ob_v, x18, ob_v, v, nI_or, ← msk_or, pI_n (c := 9) Tg.1.1, ob_v, ← e1, cv_n (c := 7) (kk5 l1), nstep_C l1 R1 pk (by omega), ob_v]
    refine inner_C hl hM T R pk n24 en (s := s) (by omega) (e := nI (msk (tend P) (s + 1))) (fun g' f' Rw' v' => ?_) n 0 FU g1 (by omega) (by unfold FU; omega) F1 (fun s' hs' => ?_) (by rw [e1, hI_eq])
    · rw [nI_1]
      exact ih (s + 1) N g' (by omega) (by omega) f' Rw' v'
    · have := Rw s' hs'
      have t : Trow P M g1 s' (if s' < s then n else 0) := by
        obtain ⟨q1, q2, q3⟩ := this
        exact ⟨fun k hk => by rw [f1.I (by omega)]; exact q1 k hk, by rw [f1.I (by omega)]; exact q2, by rw [f1.I (by omega)]; exact q3⟩
      by_cases c1 : s' < s
      · rw [if_pos c1] at t ⊢; exact t
      · rw [if_neg c1] at t ⊢
        by_cases c2 : s' = s
        · rw [if_pos c2]; exact t
        · rw [if_neg c2]; exact t
end TC
