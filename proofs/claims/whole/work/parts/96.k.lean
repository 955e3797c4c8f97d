/-! new Talk(page) -/
section TN
variable {P : PSt} {h : AH}
theorem RdC.old {g : AH} (R : RdC h P) (e : ∀ a k, a < 237 → hI g a k = hI h a k ∧ hJ g a k = hJ h a k) : RdC g P := by
  obtain ⟨a1, a2, a3, a4, a5⟩ := R
  refine ⟨by rw [(e _ _ (by omega)).1]; exact a1, by rw [(e _ _ (by omega)).2]; exact a2, by rw [(e _ _ (by omega)).2]; exact a3, by rw [(e _ _ (by omega)).1]; exact a4, fun s h1 h2 => ?_⟩
  rw [(e _ _ (by omega)).1, (e _ _ (by omega)).2]
  exact a5 s h1 h2
theorem cap24 : ∀ n, n ≤ 24 → (if (0 : Int32) < (if nI n < (24 : Int32) then nI n else (24 : Int32)) then (if nI n < (24 : Int32) then nI n else (24 : Int32)) else (0 : Int32)) = nI n := by decide +kernel
theorem Ta_ok (hl : Lay h) (R : RdC h P) (pk : PK P) {n : Nat} (n24 : n ≤ 24) (en : n = P.1.2.1) : ∃ g, f_Ta_init (nO 9 h) (hM h) (some 5) = some g ∧ Grew 4 (znf 9 + 18 * (n + 1)) h g ∧ TKs (hM h) n g ∧ hI g (hM h) 1 = nI (msk (tend P) (n + 1)) ∧ (∀ s, s ≤ n → Trow P (hM h) g s n) ∧ Lay g := by
  have h9 := hl.2.2.2.2.2.2
  obtain ⟨M, hM0⟩ : ∃ M, M = hM h := ⟨_, rfl⟩
  rw [← hM0]
  obtain ⟨h0, e0⟩ : ∃ h0, h0 = nO 9 h := ⟨_, rfl⟩
  have l0 : Lay h0 := by rw [e0]; exact hl.grow
  have m0 : hM h0 = M + 1 := by rw [e0, hM0]; rfl
  have z0 : hZ h0 = hZ h + znf 9 := by rw [e0]; rfl
  have kM0 : hK h0 M = (109, 0) := by rw [e0, hM0]; exact K_new
  have iM0 : ∀ k, hI h0 M k = 0 := fun k => by rw [e0, hM0]; exact I_new
  have o0 : ∀ a, a < M → hK h0 a = hK h a ∧ (∀ k, hI h0 a k = hI h a k) ∧ (∀ k, hJ h0 a k = hJ h a k) ∧ ∀ k, hR h0 a k = hR h a k := fun a ha => by
    rw [e0]; exact ⟨K_old (by omega), fun k => I_old (by omega), fun k => J_old (by omega), fun k => R_old (by omega)⟩
  obtain ⟨h3, e3⟩ : ∃ h3, h3 = uI h0 M 0 (nI n) := ⟨_, rfl⟩
  have l3 : Lay h3 := by rw [e3]; exact l0.uI (by omega)
  have m3 : hM h3 = M + 1 := by rw [e3]; exact m0
  obtain ⟨h5, e5⟩ : ∃ h5, h5 = uN' h3 (1, (n + 1) * 16) ((n + 1) * 16) := ⟨_, rfl⟩
  have l5 : Lay h5 := by rw [e5]; exact l3.grow
  have m5 : hM h5 = M + 2 := by rw [e5]; show hM h3 + 1 = _; omega
  have kM5 : hK h5 M = (109, 0) := by rw [e5, K_old (by omega), e3]; exact kM0
  obtain ⟨h6, e6⟩ : ∃ h6, h6 = uR h5 M 2 (some (M + 1)) := ⟨_, rfl⟩
  have l6 : Lay h6 := by rw [e6]; exact l5.uR (fun q hq z => by have := rTab_lt q hq; omega)
  have m6 : hM h6 = M + 2 := by rw [e6]; exact m5
  have kM6 : hK h6 M = (109, 0) := by rw [e6]; exact kM5
  obtain ⟨h8, e8⟩ : ∃ h8, h8 = uN' h6 (1, n + 1) (n + 1) := ⟨_, rfl⟩
  have l8 : Lay h8 := by rw [e8]; exact l6.grow
  have m8 : hM h8 = M + 3 := by rw [e8]; show hM h6 + 1 = _; omega
  have kM8 : hK h8 M = (109, 0) := by rw [e8, K_old (by omega)]; exact kM6
  obtain ⟨h9', e9⟩ : ∃ h9', h9' = uR h8 M 3 (some (M + 2)) := ⟨_, rfl⟩
  have l9 : Lay h9' := by rw [e9]; exact l8.uR (fun q hq z => by have := rTab_lt q hq; omega)
  have m9 : hM h9' = M + 3 := by rw [e9]; exact m8
  have kM9 : hK h9' M = (109, 0) := by rw [e9]; exact kM8
  obtain ⟨h11, e11⟩ : ∃ h11, h11 = uN' h9' (1, n + 1) (n + 1) := ⟨_, rfl⟩
  have l11 : Lay h11 := by rw [e11]; exact l9.grow
  have m11 : hM h11 = M + 4 := by rw [e11]; show hM h9' + 1 = _; omega
  have kM11 : hK h11 M = (109, 0) := by rw [e11, K_old (by omega)]; exact kM9
  obtain ⟨h12, e12⟩ : ∃ h12, h12 = uR h11 M 4 (some (M + 3)) := ⟨_, rfl⟩
  have l12 : Lay h12 := by rw [e12]; exact l11.uR (fun q hq z => by have := rTab_lt q hq; omega)
  have m12 : hM h12 = M + 4 := by rw [e12]; exact m11
  have kM12 : hK h12 M = (109, 0) := by rw [e12]; exact kM11
  have z12 : hZ h12 = hZ h + (znf 9 + 18 * (n + 1)) := by
    rw [e12]; show hZ h11 = _; rw [e11]; show hZ h9' + (n + 1) = _; rw [e9]; show hZ h8 + (n + 1) = _; rw [e8]; show hZ h6 + (n + 1) + (n + 1) = _; rw [e6]; show hZ h5 + (n + 1) + (n + 1) = _; rw [e5]; show hZ h3 + (n + 1) * 16 + (n + 1) + (n + 1) = _; rw [e3]; show hZ h0 + (n + 1) * 16 + (n + 1) + (n + 1) = _; omega
  have i3 : ∀ k, hI h3 M k = if k = 0 then nI n else 0 := fun k => by
    rw [e3]
    by_cases q : k = 0
    · subst q; rw [hI_eq, if_pos rfl]
    · rw [hI_ne (by omega), if_neg q]; exact iM0 k
  have i6 : ∀ k, hI h6 M k = if k = 0 then nI n else 0 := fun k => by rw [e6]; show hI h5 M k = _; rw [e5, I_old (by omega)]; exact i3 k
  have i9 : ∀ k, hI h9' M k = if k = 0 then nI n else 0 := fun k => by rw [e9]; show hI h8 M k = _; rw [e8, I_old (by omega)]; exact i6 k
  have i12 : ∀ k, hI h12 M k = if k = 0 then nI n else 0 := fun k => by rw [e12]; show hI h11 M k = _; rw [e11, I_old (by omega)]; exact i9 k
  have kA : hK h12 (M + 1) = (1, 16 * (n + 1)) := by
    rw [e12]; show hK h11 (M + 1) = _; rw [e11, K_old (by omega), e9]; show hK h8 (M + 1) = _; rw [e8, K_old (by omega), e6]; show hK h5 (M + 1) = _; rw [e5, ← m3, K_new, Nat.mul_comm]
  have kB : hK h12 (M + 2) = (1, n + 1) := by
    rw [e12]; show hK h11 (M + 2) = _; rw [e11, K_old (by omega), e9]; show hK h8 (M + 2) = _; rw [e8, ← m6, K_new]
  have kC : hK h12 (M + 3) = (1, n + 1) := by rw [e12]; show hK h11 (M + 3) = _; rw [e11, ← m9, K_new]
  have iB : ∀ k, hI h12 (M + 2) k = 0 := fun k => by
    rw [e12]; show hI h11 (M + 2) k = _; rw [e11, I_old (by omega), e9]; show hI h8 (M + 2) k = _; rw [e8, ← m6]; exact I_new
  have iC : ∀ k, hI h12 (M + 3) k = 0 := fun k => by rw [e12]; show hI h11 (M + 3) k = _; rw [e11, ← m9]; exact I_new
  have r12 : hR h12 M 2 = some (M + 1) ∧ hR h12 M 3 = some (M + 2) ∧ hR h12 M 4 = some (M + 3) := by
    have a9 : ∀ k, ¬ k = 4 → hR h12 M k = hR h9' M k := fun k hk => by
      rw [e12]; show (if M = M ∧ k = 4 then _ else hR h11 M k) = _; rw [if_neg (fun z => hk z.2), e11]; exact R_old (by omega)
    have a6 : hR h9' M 2 = hR h6 M 2 := by
      rw [e9]; show (if M = M ∧ 2 = 3 then _ else hR h8 M 2) = _; rw [if_neg (by omega), e8]; exact R_old (by omega)
    refine ⟨?_, ?_, ?_⟩
    · rw [a9 2 (by decide), a6, e6]; exact if_pos ⟨rfl, rfl⟩
    · rw [a9 3 (by decide), e9]; exact if_pos ⟨rfl, rfl⟩
    · rw [e12]; exact if_pos ⟨rfl, rfl⟩
  have o12 : ∀ a, a < M → hK h12 a = hK h a ∧ (∀ k, hI h12 a k = hI h a k) ∧ (∀ k, hJ h12 a k = hJ h a k) ∧ ∀ k, hR h12 a k = hR h a k := by
    intro a ha
    obtain ⟨q1, q2, q3, q4⟩ := o0 a ha
    have ne : ¬ a = M := by omega
    have x5 : a ≠ hM h3 := by omega
    have x8 : a ≠ hM h6 := by omega
    have x11 : a ≠ hM h9' := by omega
    refine ⟨?_, fun k => ?_, fun k => ?_, fun k => ?_⟩
    · rw [e12]; show hK h11 a = _; rw [e11, K_old x11, e9]; show hK h8 a = _; rw [e8, K_old x8, e6]; show hK h5 a = _; rw [e5, K_old x5, e3]; exact q1
    · rw [e12]; show hI h11 a k = _; rw [e11, I_old x11, e9]; show hI h8 a k = _; rw [e8, I_old x8, e6]; show hI h5 a k = _; rw [e5, I_old x5, e3, hI_ne (fun z => ne z.1)]; exact q2 k
    · rw [e12]; show hJ h11 a k = _; rw [e11, J_old x11, e9]; show hJ h8 a k = _; rw [e8, J_old x8, e6]; show hJ h5 a k = _; rw [e5, J_old x5, e3]; exact q3 k
    · rw [e12]; show (if a = M ∧ k = 4 then _ else hR h11 a k) = _; rw [if_neg (fun z => ne z.1), e11, R_old x11, e9]; show (if a = M ∧ k = 3 then _ else hR h8 a k) = _; rw [if_neg (fun z => ne z.1), e8, R_old x8, e6]; show (if a = M ∧ k = 2 then _ else hR h5 a k) = _; rw [if_neg (fun z => ne z.1), e5, R_old x5, e3]; exact q4 k
  have v0 : hI h0 5 4 = nI n := by rw [(o0 5 (by omega)).2.1, en]; exact R.1
  have T12 : TKs M n h12 := ⟨⟨kM12, kA, kB, kC⟩, r12, by rw [i12, if_pos rfl]⟩
  have R12 : RdC h12 P := R.old (fun a k ha => ⟨(o12 a (by omega)).2.1 k, (o12 a (by omega)).2.2.1 k⟩)
  obtain ⟨h14, e14, f14, v14⟩ := fillI (h := h12) (M + 1) (-1) (by omega) kA (by omega)
  have F14 : Dfr (STn M) h12 h14 := f14.mono (fun a k z => by unfold STn; omega)
  obtain ⟨g, eg, fg, rg, vg⟩ := outer_C (b := h12) l12 (by omega) T12 R12 pk n24 en (n + 1) 0 FU h14 (by omega) (by unfold FU; omega) F14 (fun s' hs' => by
    rw [if_neg (by omega)]
    refine ⟨fun k hk => v14 _ (by omega), ?_, ?_⟩
    · rw [f14.I (by omega), iB]; rfl
    · rw [f14.I (by omega), iC]; rfl) (by rw [f14.I (by omega), i12, if_neg (by decide)]; rfl)
  refine ⟨g, ?_, ⟨by rw [fg.1.1, m12]; omega, by rw [fg.1.2, z12], fun a ha => ?_⟩, T12.fr fg, vg, rg, fg.lay l12⟩
  · have x4 : gI 9 h3 M 0 = some (nI n) := by rw [gI_n (c := 9) (show hK h3 M = (109, 0) by rw [e3]; exact kM0), i3, if_pos rfl]
    have x7 : gI 9 h6 M 0 = some (nI n) := by rw [gI_n (c := 9) kM6, i6, if_pos rfl]
    have x10 : gI 9 h9' M 0 = some (nI n) := by rw [gI_n (c := 9) kM9, i9, if_pos rfl]
    have w3 : pI 9 h0 M 0 (nI n) = some h3 := by rw [e3]; exact pI_n (c := 9) kM0
    have w5 : nAr 1 h3 (nI ((n + 1) * 16)) = some h5 := by rw [e5]; exact nAr_n (by omega)
    have w6 : pR 9 h5 M 2 (some (M + 1)) = some h6 := by rw [e6]; exact pR_n (c := 9) kM5
    have w8 : nAr 1 h6 (nI (n + 1)) = some h8 := by rw [e8]; exact nAr_n (by omega)
    have w9 : pR 9 h8 M 3 (some (M + 2)) = some h9' := by rw [e9]; exact pR_n (c := 9) kM8
    have w11 : nAr 1 h9' (nI (n + 1)) = some h11 := by rw [e11]; exact nAr_n (by omega)
    have w12 : pR 9 h11 M 4 (some (M + 3)) = some h12 := by rw [e12]; exact pR_n (c := 9) kM11
    rw [f_Ta_init, ← e0, ob_v, gI_n (c := 7) (kk5 l0), ob_v, v0, cap24 n n24, w3, ob_v, x4, ob_v, nI_1, show (16 : Int32) = nI 16 from rfl, pk_mul, w5, ob_v, m3, w6, ob_v, x7, ob_v, nI_1, w8, ob_v, m6, w9, ob_v, x10, ob_v, nI_1, w11, ob_v, m9, w12, ob_v, gR_n (c := 9) kM12, ob_v, r12.1, e14, ob_v]
    exact eg
  · obtain ⟨q1, q2, q3, q4⟩ := o12 a (by omega)
    exact ⟨by rw [fg.K]; exact q1, fun k => by rw [fg.I (by unfold STn; omega)]; exact q2 k, fun k => by rw [fg.J (by unfold STn; omega)]; exact q3 k, fun k => by rw [fg.R]; exact q4 k⟩
end TN
/-! the reference writes a talk -/
def SMt (t a k : Nat) : Prop := (a = 204 ∧ 400 * t ≤ k) ∨ (a = 205 ∧ 25 * t ≤ k)
def Mrow (P : PSt) (t : Nat) (g : AH) (s : Nat) : Prop := (∀ κ, κ < 16 → hI g 204 (400 * t + 16 * s + κ) = tnx P s κ P.1.2.1) ∧ hI g 205 (25 * t + s) = bI (tend P s)
section TM
variable {P : PSt} {h : AH} {t : Nat}
theorem RdM.fr {g : AH} (R : RdM h P) (f : Dfr (SMt t) h g) : RdM g P := by
  obtain ⟨a1, a2, a3, a4, a5⟩ := R
  refine ⟨by rw [f.I (by unfold SMt; omega)]; exact a1, by rw [f.J (by unfold SMt; omega)]; exact a2, by rw [f.J (by unfold SMt; omega)]; exact a3, by rw [f.I (by unfold SMt; omega)]; exact a4, fun s h1 h2 => ?_⟩
  rw [f.I (by unfold SMt; omega), f.J (by unfold SMt; omega)]
  exact a5 s h1 h2
def SMs (t s a k : Nat) : Prop := a = 204 ∧ 400 * t + 16 * s ≤ k ∧ k < 400 * t + 16 * s + 16
theorem none_M (hl : Lay h) {s : Nat} (t6 : t < 6) (s24 : s ≤ 24) (v2 : hI h 201 2 = nI t) {ρ : Type} {Q : ρ → Prop} {k : AH → Option ρ} (hk : ∀ g, Dfr (SMs t s) h g → (∀ κ, κ < 16 → hI g 204 (400 * t + 16 * s + κ) = -1) → OK (k g) Q) : ∀ d i N (g : AH), i + d = 16 → d < N → Dfr (SMs t s) h g → (∀ κ, κ < i → hI g 204 (400 * t + 16 * s + κ) = -1) → OK (f_M_talk_L70 201 (nI s) k N (nI i) g) Q := by
  intro d
  induction d with
  | zero =>
    intro i N g h1 h2 f z
    obtain ⟨N, rfl⟩ : ∃ q, N = q + 1 := ⟨N - 1, by omega⟩
    rw [f_M_talk_L70, if_neg (show ¬ nI i < 16 from nI_nlt (b := 16) (by omega) (by omega))]
    exact hk g f (fun κ hκ => z κ (by omega))
  | succ d ih =>
    intro i N g h1 h2 f z
    obtain ⟨N, rfl⟩ : ∃ q, N = q + 1 := ⟨N - 1, by omega⟩
    have lg := f.lay hl
    have w2 : hI g 201 2 = nI t := by rw [f.I (by unfold SMs; omega)]; exact v2
    have pl : f_M_place g (nI t) (nI s) (0 : Int32) (nI i) = some (nI (400 * t + 16 * s + (8 * 0 + i))) := place_M g t s 0 i
    rw [f_M_talk_L70, if_pos (show nI i < 16 from nI_lt (b := 16) (by omega) (by omega)), gR_n (kk201 lg), ob_v, gI_n (kk201 lg), ob_v, w2, pl, ob_v]
    simp only [LR lg, ob_v]
    rw [wI_n (by decide) (kk204 lg) (show 400 * t + 16 * s + (8 * 0 + i) < 2400 by omega) (by decide), ob_v, nI_1]
    refine ih (i + 1) N _ (by omega) (by omega) (f.trans (Dfr.uI (by decide) (by unfold SMs; omega))) (fun κ hκ => ?_)
    by_cases e : κ = i
    · subst e; rw [show 400 * t + 16 * s + κ = 400 * t + 16 * s + (8 * 0 + κ) by omega]; exact hI_eq
    · rw [hI_ne (by omega)]; exact z κ (by omega)
theorem some_M (hl : Lay h) (R : RdM h P) (pk : PK P) {s : Nat} (t6 : t < 6) (n24 : P.1.2.1 ≤ 24) (hs : s ≤ P.1.2.1) (v2 : hI h 201 2 = nI t) {ρ : Type} {Q : ρ → Prop} {k : AH → Option ρ} (hk : ∀ g, Dfr (SMs t s) h g → (∀ κ, κ < 16 → hI g 204 (400 * t + 16 * s + κ) = tnx P s κ P.1.2.1) → OK (k g) Q) : ∀ d p N (g : AH), p + d = P.1.2.1 → d < N → Dfr (SMs t s) h g → (∀ κ, κ < 16 → hI g 204 (400 * t + 16 * s + κ) = tnx P s κ p) → OK (f_M_talk_L100 201 (nI s) k N (nI p) g) Q := by
  intro d
  induction d with
  | zero =>
    intro p N g h1 h2 f z
    obtain ⟨N, rfl⟩ : ∃ q, N = q + 1 := ⟨N - 1, by omega⟩
    have lg := f.lay hl
    have Rg : RdM g P := R.fr (t := t) (f.mono (fun a k z => by unfold SMs at z; unfold SMt; omega))
    rw [f_M_talk_L100, gI_n (kk201 lg), ob_v, Rg.1, if_neg (nI_nlt (show P.1.2.1 ≤ p by omega) (by omega))]
    have e : p = P.1.2.1 := by omega
    exact hk g f (fun κ hκ => by rw [← e]; exact z κ hκ)
  | succ d ih =>
    intro p N g h1 h2 f z
    obtain ⟨N, rfl⟩ : ∃ q, N = q + 1 := ⟨N - 1, by omega⟩
    have lg := f.lay hl
    have Rg : RdM g P := R.fr (t := t) (f.mono (fun a k z => by unfold SMs at z; unfold SMt; omega))
    have w2 : hI g 201 2 = nI t := by rw [f.I (by unfold SMs; omega)]; exact v2
    rw [f_M_talk_L100, gI_n (kk201 lg), ob_v, Rg.1, if_pos (nI_lt (show p < P.1.2.1 by omega) (by omega)), cv_n (kk201 lg), nset_M lg Rg pk hs, ob_v]
    have bb := bit_M (X := nxs P s) (j := p) (by omega)
    by_cases q : fol P s (p + 1) = true
    · have rp := (Rg.2.2.2.2 (p + 1) (by omega) (by omega)).1
      rw [Nat.add_sub_cancel] at rp
      have kk := pk.2 (p + 1) (by omega) (by omega)
      have kb : kM P (p + 1) < 16 := by unfold kM; omega
      have ek : 8 * (kM P (p + 1) % 2) + kM P (p + 1) / 2 = kd P (p + 1) := by unfold kM kd; omega
      have kb' : kd P (p + 1) < 16 := by unfold kd; omega
      have d2 : nI (kM P (p + 1)) / (2 : Int32) = nI (kM P (p + 1) / 2) := pk_div (d := 2) (by omega) (by decide) (by decide)
      have m2 : nI (kM P (p + 1)) - nI (kM P (p + 1) / 2) * (2 : Int32) = nI (kM P (p + 1) % 2) := by rw [← d2]; exact pk_rem (d := 2) (by omega) (by decide) (by decide)
      rw [if_pos (bb.mpr q), gR_n (kk201 lg), ob_v, gI_n (kk201 lg), ob_v, gR_n (kk201 lg), ob_v]
      simp only [LR lg, ob_v, rI_n (kk222 lg) (show p < 40 by omega) (by decide), rp, d2, m2, w2, place_M, ek]
      rw [wI_n (by decide) (kk204 lg) (show 400 * t + 16 * s + kd P (p + 1) < 2400 by omega) (by decide), ob_v, nI_1]
      refine ih (p + 1) N _ (by omega) (by omega) (f.trans (Dfr.uI (by decide) (by unfold SMs; omega))) (fun κ hκ => ?_)
      by_cases e : κ = kd P (p + 1)
      · subst e; rw [hI_eq, tnx_yes q]
      · rw [hI_ne (by omega), z κ hκ, tnx_ne (fun w => e w.symm)]
    · rw [if_neg (fun z => q (bb.mp z)), nI_1]
      exact ih (p + 1) N g (by omega) (by omega) f (fun κ hκ => by rw [tnx_no q]; exact z κ hκ)
theorem talk_M (hl : Lay h) (R : RdM h P) (pk : PK P) (t6 : t < 6) (n24 : P.1.2.1 ≤ 24) (v2 : hI h 201 2 = nI t) {ρ : Type} {Q : ρ → Prop} {k : AH → Option ρ} (hk : ∀ g, Dfr (SMt t) h g → (∀ s, s ≤ P.1.2.1 → Mrow P t g s) → OK (k g) Q) : ∀ d s N (g : AH), s + d = P.1.2.1 + 1 → d < N → Dfr (SMt t) h g → (∀ s', s' < s → Mrow P t g s') → OK (f_M_talk_L60 201 k N (nI s) g) Q := by
  intro d
  induction d with
  | zero =>
    intro s N g h1 h2 f z
    obtain ⟨N, rfl⟩ : ∃ q, N = q + 1 := ⟨N - 1, by omega⟩
    have lg := f.lay hl
    have Rg := R.fr f
    rw [f_M_talk_L60, gI_n (kk201 lg), ob_v, Rg.1, if_pos (nI_lt (show P.1.2.1 < s by omega) (by omega))]
    exact hk g f (fun s' hs' => z s' (by omega))
  | succ d ih =>
    intro s N g h1 h2 f z
    obtain ⟨N, rfl⟩ : ∃ q, N = q + 1 := ⟨N - 1, by omega⟩
    have lg := f.lay hl
    have Rg := R.fr f
    have w2 : hI g 201 2 = nI t := by rw [f.I (by unfold SMt; omega)]; exact v2
    rw [f_M_talk_L60, gI_n (kk201 lg), ob_v, Rg.1, if_neg (nI_nlt (show s ≤ P.1.2.1 by omega) (by omega))]
    refine none_M lg (s := s) t6 (by omega) w2 (fun g1 f1 z1 => ?_) 16 0 FU g (by omega) (by unfold FU; omega) Dfr.refl (fun κ hκ => by omega)
    have l1 := f1.lay lg
    have R1 : RdM g1 P := Rg.fr (t := t) (f1.mono (fun a k z => by unfold SMs at z; unfold SMt; omega))
    have u2 : hI g1 201 2 = nI t := by rw [f1.I (by unfold SMs; omega)]; exact w2
    refine some_M l1 R1 pk (s := s) t6 n24 (by omega) u2 (fun g2 f2 z2 => ?_) P.1.2.1 0 FU g1 (by omega) (by unfold FU; omega) Dfr.refl z1
    have l2 := f2.lay l1
    have R2 : RdM g2 P := R1.fr (t := t) (f2.mono (fun a k z => by unfold SMs at z; unfold SMt; omega))
    have y2 : hI g2 201 2 = nI t := by rw [f2.I (by unfold SMs; omega)]; exact u2
    have x40 : ((if nI s = (0 : Int32) then
              (gR 12 g2 201 24).bind fun r37 =>
              (r37).bind fun a38 =>
              (rI 2 g2 a38 (0 : Int32)).bind fun x39 =>
              some (x39)
            else
              (gR 12 g2 201 26).bind fun r34 =>
              (r34).bind fun a35 =>
              (rJ g2 a35 (0 : Int32)).bind fun x36 =>
              if (lg_cmp ((xlshr x36 (nI s - (1 : Int32))) &&& (1 : Int64)) (1 : Int64)) = (0 : Int32) then
                some ((1 : Int32))
              else
                some ((0 : Int32))) : Option Int32) = some (bI (tend P s)) := by
      unfold tend
      by_cases z : s = 0
      · subst z
        rw [if_pos (show nI 0 = 0 from rfl), if_pos rfl, gR_n (kk201 l2), ob_v]
        simp only [LR l2, ob_v]
        rw [show rI 2 g2 216 (0 : Int32) = some (hI g2 216 0) from rI_n (j := 0) (kk216 l2) (by decide) (by decide), ob_v, R2.2.2.2.1]
      · rw [if_neg (nI_ne0 (by omega) (by omega)), if_neg z, gR_n (kk201 l2), ob_v]
        simp only [LR l2, ob_v]
        rw [show rJ g2 218 (0 : Int32) = some (hJ g2 218 0) from rJ_n (j := 0) (kk218 l2) (by decide) (by decide), ob_v, R2.2.2.1, show nI s - 1 = nI (s - 1) from pk_sub (a := s) (b := 1) (by omega)]
        have bb := bit_M (X := (P.2.1 0).1.2.2.2) (j := s - 1) (by omega)
        cases q : (P.2.1 0).1.2.2.2.testBit (s - 1) with
        | false => rw [if_neg (fun z => by rw [bb.mp z] at q; cases q)]; rfl
        | true => rw [if_pos (bb.mpr q)]; rfl
    rw [gR_n (kk201 l2), ob_v, gI_n (kk201 l2), ob_v, x40, ob_v]
    simp only [LR l2, ob_v, y2]
    rw [show (25 : Int32) = nI 25 from rfl, pk_mul, nI_add, wZ_n (by decide) (kk205 l2) (show 25 * t + s < 150 by omega) (by decide), ob_v, nI_1, bI_and1]
    have F2 : Dfr (SMs t s) g g2 := f1.trans f2
    have F3 : Dfr (fun a k => SMs t s a k ∨ (a = 205 ∧ k = 25 * t + s)) g (uI g2 205 (25 * t + s) (bI (tend P s))) := (F2.mono (fun a k z => Or.inl z)).trans (Dfr.uI (by decide) (Or.inr ⟨rfl, rfl⟩))
    refine ih (s + 1) N _ (by omega) (by omega) (f.trans (F3.mono (fun a k z => by unfold SMs at z; unfold SMt; omega))) (fun s' hs' => ?_)
    by_cases e : s' = s
    · subst e
      exact ⟨fun κ hκ => by rw [hI_ne (by omega)]; exact z2 κ hκ, hI_eq⟩
    · obtain ⟨c1, c2⟩ := z s' (by omega)
      exact ⟨fun κ hκ => by rw [F3.I (by unfold SMs; omega)]; exact c1 κ hκ, by rw [F3.I (by unfold SMs; omega)]; exact c2⟩
end TM
