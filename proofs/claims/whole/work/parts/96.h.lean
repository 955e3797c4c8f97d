/-! reading as a whole -/
def whl (pn : Nat) (R : Nat × PSt) : Bool := decide (R.1 = pn) && (decide (R.2.1.1 = 0) && (R.2.1.2.2.2 && decide (R.2.1.2.2.1 = -1)))
section RH
variable {h g : AH} {P : PSt}
theorem zero_M (hl : Lay h) {ρ : Type} {Q : ρ → Prop} {k : AH → Option ρ} (hk : ∀ g, Dfr (OnC 223) h g → (∀ s, s < 40 → hJ g 223 s = 0) → OK (k g) Q) : OK (f_M_readPage_L17 201 k FU 0 h) Q := by
  have main : ∀ d i N (g : AH), i + d = 40 → d < N → Dfr (OnC 223) h g → (∀ s, s < i → hJ g 223 s = 0) → OK (f_M_readPage_L17 201 k N (nI i) g) Q := by
    intro d
    induction d with
    | zero =>
      intro i N g h1 h2 f z
      obtain ⟨N, rfl⟩ : ∃ q, N = q + 1 := ⟨N - 1, by omega⟩
      rw [f_M_readPage_L17, if_neg (show ¬ nI i < 40 from nI_nlt (a := i) (b := 40) (by omega) (by omega))]
      exact hk g f (fun s hs => z s (by omega))
    | succ d ih =>
      intro i N g h1 h2 f z
      obtain ⟨N, rfl⟩ : ∃ q, N = q + 1 := ⟨N - 1, by omega⟩
      have lg := f.lay hl
      rw [f_M_readPage_L17, if_pos (show nI i < 40 from nI_lt (b := 40) (by omega) (by omega)), gR_n (kk201 lg), ob_v]
      simp only [LR lg, ob_v]
      rw [wJ_n (by decide) (kk223 lg) (show i < 40 by omega) (by decide), ob_v, nI_1]
      refine ih (i + 1) N _ (by omega) (by omega) (f.trans (Dfr.uJ (by decide) rfl)) (fun s hs => ?_)
      rw [hJ_u]
      by_cases w : s = i
      · rw [if_pos ⟨rfl, w⟩]
      · rw [if_neg (fun q => w q.2)]; exact z s (by omega)
  exact main 40 0 FU h (by omega) (by unfold FU; omega) Dfr.refl (fun s hs => by omega)
theorem read_M {pn : Nat} {pg : Nat → Nat} (hl : Lay h) (rp : RPm h pn pg) : OK (f_M_readPage h 201) (fun g => MQr 80 h g (rdF pg pn 0 P00).2 ∧ hI g 201 33 = nI (rdF pg pn 0 P00).1 ∧ hI g 201 34 = bI (whl pn (rdF pg pn 0 P00))) := by
  have h80 := rp.1
  obtain ⟨g1, e1⟩ : ∃ g1, g1 = uI h 201 21 (-1) := ⟨_, rfl⟩
  have f1 : Dfr SRm h g1 := by rw [e1]; exact Dfr.uI (by decide) (by unfold SRm; omega)
  have l1 := f1.lay hl
  have p1 : pI 12 h 201 21 (-1) = some g1 := by rw [e1]; exact pI_n (kk201 hl)
  obtain ⟨g2, e2⟩ : ∃ g2, g2 = uI g1 201 30 0 := ⟨_, rfl⟩
  have f2 : Dfr SRm g1 g2 := by rw [e2]; exact Dfr.uI (by decide) (by unfold SRm; omega)
  have l2 := f2.lay l1
  have p2 : pI 12 g1 201 30 0 = some g2 := by rw [e2]; exact pI_n (kk201 l1)
  have v2 : hI g2 201 21 = -1 := by rw [e2, hI_ne (by omega), e1, hI_eq]
  obtain ⟨g3, e3, f3, w3, L3⟩ := open_M (K := 0) l2 (D := 0) (by decide) v2 (by decide) (br := 0)
  have e3' : f_M_open g2 201 (0 : Int32) = some g3 := e3
  have l3 := f3.lay l2
  obtain ⟨R, eR⟩ : ∃ R, R = rdF pg pn 0 P00 := ⟨_, rfl⟩
  rw [← eR]
  rw [f_M_readPage, p1, ob_v, p2, ob_v, cv_n (kk201 l2), e3', ob_v]
  refine zero_M l3 (fun g4 f4 z4 => ?_)
  have F4 : Dfr SRm h g4 := ((f1.trans f2).trans (f3.mono (fun a k z => by unfold SRm; omega))).trans (f4.mono (fun a k z => by unfold OnC at z; unfold SRm; omega))
  have l4 := f4.lay l3
  have C4 : MQr 0 h g4 P00 := by
    refine ⟨F4, ?_, ?_, fun i hi => ?_, fun s r1 r2 => absurd r2 (by show ¬ s ≤ 0; omega), fun s r1 r2 => z4 s r2⟩
    · rw [f4.I (by unfold OnC; omega)]; exact w3
    · rw [f4.I (by unfold OnC; omega), f3.I (by omega), e2, hI_eq]; rfl
    · have : i = 0 := by have : i ≤ 0 := hi; omega
      subst this
      exact L3.fr (fun a a1 a2 => ⟨f4.I (by unfold OnC; omega), f4.J (by unfold OnC; omega)⟩)
  refine loop_M (R := R) hl rp (fun g' C => ?_) pn 0 FU g4 P00 (by omega) (by unfold FU; omega) C4 P00_B eR.symm
  obtain ⟨C1, C2, C3, C5, C6, C8⟩ := id C
  have lg := C1.lay hl
  have hR : R.1 ≤ pn ∧ R.2.1.1 ≤ 80 := by
    have : ∀ d i P, i + d = pn → PB P i → (rdF pg d i P).1 ≤ pn ∧ (rdF pg d i P).2.1.1 ≤ pn := by
      intro d
      induction d with
      | zero => intro i P a b; exact ⟨by show i ≤ pn; omega, by have := b.1; show P.1.1 ≤ pn; omega⟩
      | succ d ih =>
        intro i P a b
        rw [rdF]
        cases q : acc1 P (pg i) with
        | none => exact ⟨by show i ≤ pn; omega, by have := b.1; show P.1.1 ≤ pn; omega⟩
        | some P' => exact ih (i + 1) P' (by omega) (acc1_B b q)
    have := this pn 0 P00 (by omega) P00_B
    rw [← eR] at this
    omega
  obtain ⟨g5, e5⟩ : ∃ g5, g5 = uI g' 201 33 (nI R.1) := ⟨_, rfl⟩
  have f5 : Dfr (fun a k => a = 201 ∧ (k = 33 ∨ k = 34)) g' g5 := by rw [e5]; exact Dfr.uI (by decide) (by omega)
  have l5 := f5.lay lg
  have p5 : pI 12 g' 201 33 (nI R.1) = some g5 := by rw [e5]; exact pI_n (kk201 lg)
  have u0 : hI g5 201 0 = nI pn := by rw [f5.I (by omega), C1.I (by unfold SRm; omega)]; exact rp.2.1
  have u21 : hI g5 201 21 = nI R.2.1.1 := by rw [f5.I (by omega)]; exact C2
  have x198 : ((if nI R.1 = nI pn then
      if nI R.2.1.1 = (0 : Int32) then
        if bI R.2.1.2.2.2 = (0 : Int32) then some (0 : Int32)
        else if R.2.1.2.2.1 = (-1 : Int32) then some (1 : Int32) else some (0 : Int32)
      else some (0 : Int32)
    else some (0 : Int32)) : Option Int32) = some (bI (whl pn R)) := by
    unfold whl
    by_cases a : R.1 = pn
    · rw [if_pos (by rw [a]), decide_eq_true a]
      by_cases b : R.2.1.1 = 0
      · rw [if_pos (by rw [b]; rfl), decide_eq_true b]
        cases R.2.1.2.2.2 with
        | false => rfl
        | true =>
          rw [if_neg (show ¬ bI true = 0 by decide)]
          by_cases c : R.2.1.2.2.1 = -1
          · rw [if_pos c, decide_eq_true c]; rfl
          · rw [if_neg c, decide_eq_false c]; rfl
      · rw [if_neg (nI_ne0 (by omega) (by omega)), decide_eq_false b]; rfl
    · rw [if_neg (fun z => a (nI_inj (by omega) (by omega) z)), decide_eq_false a]; rfl
  obtain ⟨g6, e6⟩ : ∃ g6, g6 = uI g5 201 34 (bI (whl pn R)) := ⟨_, rfl⟩
  have f6 : Dfr (fun a k => a = 201 ∧ (k = 33 ∨ k = 34)) g5 g6 := by rw [e6]; exact Dfr.uI (by decide) (by omega)
  have p6 : pZ 12 g5 201 34 (bI (whl pn R)) = some g6 := by rw [e6]; exact pZ_n (c := 12) (kk201 l5) (bI01 _)
  simp only [p5, ob_v, gI_n (kk201 l5), u0, u21]
  rw [x198, ob_v, p6, ob_v]
  have f56 := f5.trans f6
  have oo : ∀ a k, ¬ (a = 201 ∧ (k = 33 ∨ k = 34)) → hI g6 a k = hI g' a k ∧ hJ g6 a k = hJ g' a k := fun a k z => ⟨f56.I z, f56.J z⟩
  refine OK.mk ⟨⟨C1.trans (f56.mono (fun a k z => by unfold SRm; omega)), by rw [(oo 201 21 (by omega)).1]; exact C2, by rw [(oo 201 30 (by omega)).1]; exact C3, fun i hi => (C5 i hi).fr (fun a _ _ => oo a i (by omega)), fun s r1 r2 => by rw [(oo 222 _ (by omega)).1, (oo 223 _ (by omega)).2]; exact C6 s r1 r2, fun s r1 r2 => by rw [(oo 223 _ (by omega)).2]; exact C8 s r1 r2⟩, ?_, ?_⟩
  · rw [e6, hI_ne (by omega), e5, hI_eq]
  · rw [e6, hI_eq]
def SRd (a k : Nat) : Prop := SRc a k ∨ SRm a k
theorem RPage.m {pn : Nat} {pg : Nat → Nat} {h' : AH} (rp : RPage h pn pg) (f : ∀ k, hI h' 201 0 = hI h 201 0 ∧ hI h' 202 k = hI h 202 k) : RPm h' pn pg := ⟨rp.1, by rw [(f 0).1]; exact rp.2.2.1, fun i hi => by obtain ⟨a, b, _, c⟩ := rp.2.2.2 i hi; exact ⟨a, b, by rw [(f i).2]; exact c⟩⟩
theorem o_good {pn : Nat} {pg : Nat → Nat} (hl : Lay h) (rp : RPage h pn pg) : ∃ r h1 h2, f_C_good h 4 = some (r, h1) ∧ f_M_good h1 201 = some (r, h2) ∧ Dfr SRd h h2 := by
  obtain ⟨⟨r, h1⟩, e1, c1, c2, _⟩ := read_C hl rp
  dsimp only at c1 c2
  have l1 := c2.1.1.lay hl
  have rm : RPm h1 pn pg := rp.m (fun k => ⟨c2.1.1.I (by unfold SRc; omega), c2.1.1.I (by unfold SRc; omega)⟩)
  obtain ⟨h2, e2, d1, d2, d3⟩ := read_M l1 rm
  refine ⟨r, h1, h2, ?_, ?_, (c2.1.1.mono (fun a k z => Or.inl z)).trans (d1.1.mono (fun a k z => Or.inr z))⟩
  · simp only [f_C_good, gR_n (c := 0) (kk4 hl), LR hl, ob_v, cv_n (c := 7) (kk5 hl), e1, bd2_v]
  · rw [f_M_good, cv_n (kk201 l1), e2, ob_v, gI_n (kk201 (d1.1.lay l1)), d2, ob_v, c1]
end RH
