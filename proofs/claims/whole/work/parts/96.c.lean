/-! the class takes a letter -/
theorem ltr_40 : ∀ b, b ≤ 2 → ((nI (ltr b) = 40) ↔ b = 1) := by decide
theorem ltr_123 : ∀ b, b ≤ 2 → ((nI (ltr b) = 123) ↔ b = 2) := by decide
def P00 : PSt := ((0, 0, -1, false), (fun _ => lv0 0), (fun _ => (0, 0)), (fun _ => 0))
def rdF (pg : Nat → Nat) : Nat → Nat → PSt → Nat × PSt
  | 0, i, P => (i, P)
  | d + 1, i, P => match acc1 P (pg i) with
    | none => (i, P)
    | some P' => rdF pg d (i + 1) P'
section RC2
variable {h g : AH} {P : PSt}
theorem start_L {o : Nat} (h4 : 4 ≤ o) (hk : hK g o = (105, 0)) : ∃ g', f_Le_startTalk g o = some g' ∧ Dfr (fun a _ => a = o) g g' ∧ (hI g' o 2 = 0 ∧ hJ g' o 3 = 0 ∧ hJ g' o 4 = 0 ∧ hI g' o 5 = 1) ∧ (∀ k, ¬ k = 2 → ¬ k = 5 → hI g' o k = hI g o k) ∧ ∀ k, ¬ k = 3 → ¬ k = 4 → hJ g' o k = hJ g o k := by
  obtain ⟨g1, e1⟩ : ∃ g1, g1 = uI g o 2 0 := ⟨_, rfl⟩
  have f1 : Dfr (fun a _ => a = o) g g1 := by rw [e1]; exact Dfr.uI h4 rfl
  have k1 : hK g1 o = (105, 0) := by rw [f1.K]; exact hk
  have p1 : pZ 5 g o 2 0 = some g1 := by rw [e1]; exact pZ_n (c := 5) hk (Or.inl rfl)
  obtain ⟨g2, e2⟩ : ∃ g2, g2 = uJ g1 o 3 0 := ⟨_, rfl⟩
  have f2 : Dfr (fun a _ => a = o) g1 g2 := by rw [e2]; exact Dfr.uJ h4 rfl
  have k2 : hK g2 o = (105, 0) := by rw [f2.K]; exact k1
  have p2 : pJ 5 g1 o 3 0 = some g2 := by rw [e2]; exact pJ_n (c := 5) k1
  obtain ⟨g3, e3⟩ : ∃ g3, g3 = uJ g2 o 4 0 := ⟨_, rfl⟩
  have f3 : Dfr (fun a _ => a = o) g2 g3 := by rw [e3]; exact Dfr.uJ h4 rfl
  have k3 : hK g3 o = (105, 0) := by rw [f3.K]; exact k2
  have p3 : pJ 5 g2 o 4 0 = some g3 := by rw [e3]; exact pJ_n (c := 5) k2
  obtain ⟨g4, e4⟩ : ∃ g4, g4 = uI g3 o 5 1 := ⟨_, rfl⟩
  have f4 : Dfr (fun a _ => a = o) g3 g4 := by rw [e4]; exact Dfr.uI h4 rfl
  have p4 : pZ 5 g3 o 5 1 = some g4 := by rw [e4]; exact pZ_n (c := 5) k3 (Or.inr rfl)
  have J4 : ∀ k, hJ g4 o k = hJ g3 o k := fun k => by rw [e4]; rfl
  have J1 : ∀ k, hJ g1 o k = hJ g o k := fun k => by rw [e1]; rfl
  have I3 : ∀ k, hI g3 o k = hI g2 o k := fun k => by rw [e3]; rfl
  have I2 : ∀ k, hI g2 o k = hI g1 o k := fun k => by rw [e2]; rfl
  refine ⟨g4, ?_, ((f1.trans f2).trans f3).trans f4, ⟨?_, ?_, ?_, ?_⟩, fun k z w => ?_, fun k z w => ?_⟩
  · unfold f_Le_startTalk
    rw [p1, ob_v, p2, ob_v, p3, ob_v, p4, ob_v]
  · rw [e4, hI_ne (by omega), I3, I2, e1, hI_eq]
  · rw [J4, e3, hJ_u, if_neg (by omega), e2, hJ_u, if_pos ⟨rfl, rfl⟩]
  · rw [J4, e3, hJ_u, if_pos ⟨rfl, rfl⟩]
  · rw [e4, hI_eq]
  · rw [e4, hI_ne (by omega), I3, I2, e1, hI_ne (by omega)]
  · rw [J4, e3, hJ_u, if_neg (by omega), e2, hJ_u, if_neg (by omega), J1]
theorem open_L {o br : Nat} (h4 : 4 ≤ o) (hk : hK g o = (105, 0)) : ∃ g', f_Le_open g o (nI (ltr br)) = some g' ∧ Dfr (fun a _ => a = o) g g' ∧ LVc g' o (lv0 br) ∧ hI g' o 2 = 0 := by
  obtain ⟨g1, e1⟩ : ∃ g1, g1 = uI g o 0 (nI (ltr br)) := ⟨_, rfl⟩
  have f1 : Dfr (fun a _ => a = o) g g1 := by rw [e1]; exact Dfr.uI h4 rfl
  have k1 : hK g1 o = (105, 0) := by rw [f1.K]; exact hk
  have p1 : pI 5 g o 0 (nI (ltr br)) = some g1 := by rw [e1]; exact pI_n (c := 5) hk
  obtain ⟨g2, e2⟩ : ∃ g2, g2 = uI g1 o 1 0 := ⟨_, rfl⟩
  have f2 : Dfr (fun a _ => a = o) g1 g2 := by rw [e2]; exact Dfr.uI h4 rfl
  have k2 : hK g2 o = (105, 0) := by rw [f2.K]; exact k1
  have p2 : pZ 5 g1 o 1 0 = some g2 := by rw [e2]; exact pZ_n (c := 5) k1 (Or.inl rfl)
  obtain ⟨g3, e3⟩ : ∃ g3, g3 = uJ g2 o 6 0 := ⟨_, rfl⟩
  have f3 : Dfr (fun a _ => a = o) g2 g3 := by rw [e3]; exact Dfr.uJ h4 rfl
  have k3 : hK g3 o = (105, 0) := by rw [f3.K]; exact k2
  have p3 : pJ 5 g2 o 6 0 = some g3 := by rw [e3]; exact pJ_n (c := 5) k2
  obtain ⟨g4, e4⟩ : ∃ g4, g4 = uJ g3 o 7 0 := ⟨_, rfl⟩
  have f4 : Dfr (fun a _ => a = o) g3 g4 := by rw [e4]; exact Dfr.uJ h4 rfl
  have k4 : hK g4 o = (105, 0) := by rw [f4.K]; exact k3
  have p4 : pJ 5 g3 o 7 0 = some g4 := by rw [e4]; exact pJ_n (c := 5) k3
  obtain ⟨g5, e5⟩ : ∃ g5, g5 = uI g4 o 8 0 := ⟨_, rfl⟩
  have f5 : Dfr (fun a _ => a = o) g4 g5 := by rw [e5]; exact Dfr.uI h4 rfl
  have k5 : hK g5 o = (105, 0) := by rw [f5.K]; exact k4
  have p5 : pZ 5 g4 o 8 0 = some g5 := by rw [e5]; exact pZ_n (c := 5) k4 (Or.inl rfl)
  obtain ⟨g6, e6, f6, ⟨v1, v2, v3, v4⟩, w1, w2⟩ := start_L h4 k5
  have I4 : ∀ k, hI g4 o k = hI g2 o k := fun k => by rw [e4, e3]; rfl
  have J5 : ∀ k, hJ g5 o k = hJ g4 o k := fun k => by rw [e5]; rfl
  refine ⟨g6, ?_, ((((f1.trans f2).trans f3).trans f4).trans f5).trans f6, ⟨?_, ?_, ?_, ?_, ?_, ?_, ?_, ?_⟩, v1⟩
  · unfold f_Le_open
    rw [p1, ob_v, p2, ob_v, p3, ob_v, p4, ob_v, p5, ob_v, cv_n (c := 5) k5, e6, ob_v]
  · rw [w1 0 (by decide) (by decide), e5, hI_ne (by omega), I4, e2, hI_ne (by omega), e1, hI_eq]; rfl
  · rw [w1 1 (by decide) (by decide), e5, hI_ne (by omega), I4, e2, hI_eq]; rfl
  · rw [v2]; rfl
  · rw [v3]; rfl
  · rw [v4]; rfl
  · rw [w2 6 (by decide) (by decide), J5, e4, hJ_u, if_neg (by omega), e3, hJ_u, if_pos ⟨rfl, rfl⟩]; rfl
  · rw [w2 7 (by decide) (by decide), J5, e4, hJ_u, if_pos ⟨rfl, rfl⟩]; rfl
  · rw [w1 8 (by decide) (by decide), e5, hI_eq]; rfl
theorem end_L {o : Nat} {l : Lv} (h4 : 4 ≤ o) (hk : hK g o = (105, 0)) (x : LVc g o l) (ba : l.1.2.1 = true) : ∃ g', f_Le_endBranch g o = some g' ∧ Dfr (fun a _ => a = o) g g' ∧ LVc g' o (gat l) ∧ hI g' o 2 = 0 := by
  obtain ⟨a1, a2, a3, a4, a5, a6, a7, a8⟩ := x
  obtain ⟨g1, e1⟩ : ∃ g1, g1 = uJ g o 6 (lN (2 * (l.2.2.1 ||| l.1.2.2.1))) := ⟨_, rfl⟩
  have f1 : Dfr (fun a _ => a = o) g g1 := by rw [e1]; exact Dfr.uJ h4 rfl
  have k1 : hK g1 o = (105, 0) := by rw [f1.K]; exact hk
  have p1 : pJ 5 g o 6 (lN (2 * (l.2.2.1 ||| l.1.2.2.1))) = some g1 := by rw [e1]; exact pJ_n (c := 5) hk
  obtain ⟨g2, e2⟩ : ∃ g2, g2 = uJ g1 o 7 (lN (2 * (l.2.2.2.1 ||| l.1.2.2.2))) := ⟨_, rfl⟩
  have f2 : Dfr (fun a _ => a = o) g1 g2 := by rw [e2]; exact Dfr.uJ h4 rfl
  have k2 : hK g2 o = (105, 0) := by rw [f2.K]; exact k1
  have p2 : pJ 5 g1 o 7 (lN (2 * (l.2.2.2.1 ||| l.1.2.2.2))) = some g2 := by rw [e2]; exact pJ_n (c := 5) k1
  obtain ⟨g3, e3⟩ : ∃ g3, g3 = uI g2 o 8 (bI (l.2.2.2.2 || l.2.1)) := ⟨_, rfl⟩
  have f3 : Dfr (fun a _ => a = o) g2 g3 := by rw [e3]; exact Dfr.uI h4 rfl
  have k3 : hK g3 o = (105, 0) := by rw [f3.K]; exact k2
  have p3 : pZ 5 g2 o 8 (bI (l.2.2.2.2 || l.2.1)) = some g3 := by rw [e3]; exact pZ_n (c := 5) k2 (bI01 _)
  have I2 : ∀ k, hI g2 o k = hI g o k := fun k => by rw [e2, e1]; rfl
  have J3 : ∀ k, hJ g3 o k = hJ g2 o k := fun k => by rw [e3]; rfl
  have b7 : hJ g1 o 7 = lN (2 * l.2.2.2.1) := by rw [e1, hJ_u, if_neg (by omega)]; exact a7
  have b4 : hJ g1 o 4 = lN (2 * l.1.2.2.2) := by rw [e1, hJ_u, if_neg (by omega)]; exact a4
  have b8 : hI g2 o 8 = bI l.2.2.2.2 := by rw [I2]; exact a8
  have b5 : hI g2 o 5 = bI l.2.1 := by rw [I2]; exact a5
  have orb : bI l.2.2.2.2 ||| bI l.2.1 = bI (l.2.2.2.2 || l.2.1) := by cases l.2.2.2.2 <;> cases l.2.1 <;> decide
  obtain ⟨g6, e6, f6, ⟨v1, v2, v3, v4⟩, w1, w2⟩ := start_L h4 k3
  refine ⟨g6, ?_, ((f1.trans f2).trans f3).trans f6, ⟨?_, ?_, ?_, ?_, ?_, ?_, ?_, ?_⟩, v1⟩
  · unfold f_Le_endBranch
    rw [gJ_n (c := 5) hk, a6, ob_v, gJ_n (c := 5) hk, a3, ob_v, lN_or, or2, p1, ob_v, gJ_n (c := 5) k1, b7, ob_v, gJ_n (c := 5) k1, b4, ob_v, lN_or, or2, p2, ob_v, gI_n (c := 5) k2, b8, ob_v, gI_n (c := 5) k2, b5, ob_v, orb, p3, ob_v, cv_n (c := 5) k3, e6, ob_v]
  · rw [w1 0 (by decide) (by decide), e3, hI_ne (by omega), I2]; exact a1
  · rw [w1 1 (by decide) (by decide), e3, hI_ne (by omega), I2, a2, ba]; rfl
  · rw [v2]; rfl
  · rw [v3]; rfl
  · rw [v4]; rfl
  · rw [w2 6 (by decide) (by decide), J3, e2, hJ_u, if_neg (by omega), e1, hJ_u, if_pos ⟨rfl, rfl⟩]; rfl
  · rw [w2 7 (by decide) (by decide), J3, e2, hJ_u, if_pos ⟨rfl, rfl⟩]; rfl
  · rw [w1 8 (by decide) (by decide), e3, hI_eq]; rfl
theorem lvl (hl : Lay g) {i : Nat} (hi : i ≤ 80) : hK g (10 + i) = (105, 0) ∧ rR 5 g 7 (nI i) = some (some (10 + i)) := by
  obtain ⟨k1, k2⟩ := hl.level (i := i) (by omega)
  exact ⟨k1, by rw [rR_n (c := 5) (kk7 hl) (show i < 81 by omega) (by decide), k2]⟩
theorem bars_C (hl : Lay h) (C : CP h g P) (hD : P.1.1 ≤ 80) (hb : (top P).1.1 ≤ 2) : OK (f_Pa_bars g 5) (fun q => if P.1.2.2.2 = true ∧ (top P).1.1 = 1 then q.1 = 1 ∧ CP h q.2 (barP P) else q = (0, g)) := by
  obtain ⟨⟨C1, C2, C3, C4, C5, C6⟩, C7⟩ := C
  have lg := C1.lay hl
  obtain ⟨k1, k2⟩ := lvl lg hD
  have L : LVc g (10 + P.1.1) (top P) := C5 P.1.1 (Nat.le_refl _)
  have mb : f_Le_mayBar g (10 + P.1.1) = some (bI (decide (P.1.2.2.2 = true ∧ (top P).1.1 = 1))) := by
    unfold f_Le_mayBar
    rw [gI_n (c := 5) k1, L.1, ob_v]
    by_cases q : (top P).1.1 = 1
    · rw [if_pos ((ltr_40 _ hb).mpr q), gI_n (c := 5) k1, C7, ob_v]
      cases P.1.2.2.2 <;> simp [bI, q]
    · rw [if_neg (fun z => q ((ltr_40 _ hb).mp z))]
      simp [bI, q]
  simp only [f_Pa_bars, gR_n (c := 7) (kk5 lg), gI_n (c := 7) (kk5 lg), LR lg, C2, ob_v, k2, cv_n (c := 5) k1, mb]
  by_cases q : P.1.2.2.2 = true ∧ (top P).1.1 = 1
  · rw [decide_eq_true q, if_neg (show ¬ bI true = 0 by decide)]
    obtain ⟨g1, e1⟩ : ∃ g1, g1 = uI g (10 + P.1.1) 1 1 := ⟨_, rfl⟩
    have p1 : pZ 5 g (10 + P.1.1) 1 1 = some g1 := by rw [e1]; exact pZ_n (c := 5) k1 (Or.inr rfl)
    have f1 : Dfr (fun a _ => a = 10 + P.1.1) g g1 := by rw [e1]; exact Dfr.uI (by omega) rfl
    have k1' : hK g1 (10 + P.1.1) = (105, 0) := by rw [f1.K]; exact k1
    obtain ⟨l', el'⟩ : ∃ l' : Lv, l' = (((top P).1.1, true, (top P).1.2.2), (top P).2) := ⟨_, rfl⟩
    have L1 : LVc g1 (10 + P.1.1) l' := by
      obtain ⟨a1, a2, a3, a4, a5, a6, a7, a8⟩ := L
      rw [el', e1]
      exact ⟨by rw [hI_ne (by omega)]; exact a1, by rw [hI_eq]; rfl, a3, a4, by rw [hI_ne (by omega)]; exact a5, a6, a7, by rw [hI_ne (by omega)]; exact a8⟩
    obtain ⟨g2, e2, f2, L2, b2⟩ := end_L (by omega) k1' L1 (by rw [el'])
    have eg : gat l' = gat (top P) := by rw [el']; rfl
    rw [eg] at L2
    rw [p1, ob_v, cv_n (c := 5) k1', e2, ob_v]
    refine OK.mk ?_
    rw [if_pos q]
    have f12 := f1.trans f2
    have oo : ∀ a k, ¬ a = 10 + P.1.1 → hI g2 a k = hI g a k ∧ hJ g2 a k = hJ g a k := fun a k z => ⟨f12.I z, f12.J z⟩
    refine ⟨rfl, ⟨C1.trans (f12.mono (fun a k z => by unfold SRc; omega)), by rw [(oo 5 3 (by omega)).1]; exact C2, by rw [(oo 5 4 (by omega)).1]; exact C3, by rw [(oo 5 7 (by omega)).1]; exact C4, fun i hi => ?_, fun s r1 r2 => by rw [(oo 8 s (by omega)).1, (oo 9 s (by omega)).2]; exact C6 s r1 r2⟩, ?_⟩
    · show LVc g2 (10 + i) (setTop P.2.1 P.1.1 (gat (top P)) i)
      unfold setTop
      by_cases z : i = P.1.1
      · rw [if_pos z, z]; exact L2
      · rw [if_neg z]; exact (C5 i hi).fr (fun k => oo _ _ (by omega))
    · show hI g2 (10 + P.1.1) 2 = bI false
      rw [b2]; rfl
  · rw [decide_eq_false q, if_pos (show bI false = 0 from rfl)]
    refine OK.mk ?_
    rw [if_neg q]
theorem opens_C (hl : Lay h) (C : CP h g P) (hD : P.1.1 < 80) {br : Nat} : OK (f_Pa_opens g 5 (nI (ltr br))) (fun q => q.1 = 1 ∧ CP h q.2 (opnP P br)) := by
  obtain ⟨⟨C1, C2, C3, C4, C5, C6⟩, C7⟩ := C
  have lg := C1.lay hl
  have q80 : nI P.1.1 < 80 := nI_lt (b := 80) hD (by decide)
  obtain ⟨g1, e1⟩ : ∃ g1, g1 = uI g 5 3 (nI (P.1.1 + 1)) := ⟨_, rfl⟩
  have p1 : pI 7 g 5 3 (nI (P.1.1 + 1)) = some g1 := by rw [e1]; exact pI_n (c := 7) (kk5 lg)
  have f1 : Dfr (fun a k => a = 5 ∧ k = 3) g g1 := by rw [e1]; exact Dfr.uI (by decide) ⟨rfl, rfl⟩
  have l1 := f1.lay lg
  have i1 : hI g1 5 3 = nI (P.1.1 + 1) := by rw [e1, hI_eq]
  obtain ⟨k1, k2⟩ := lvl l1 (show P.1.1 + 1 ≤ 80 by omega)
  obtain ⟨g2, e2, f2, L2, b2⟩ := open_L (br := br) (by omega) k1
  simp only [f_Pa_opens, gI_n (c := 7) (kk5 lg), C2, ob_v, q80, if_true, nI_1, p1, gR_n (c := 7) (kk5 l1), gI_n (c := 7) (kk5 l1), LR l1, i1, k2, cv_n (c := 5) k1, e2]
  have oo : ∀ a k, ¬ a = 10 + (P.1.1 + 1) → ¬ (a = 5 ∧ k = 3) → hI g2 a k = hI g a k ∧ hJ g2 a k = hJ g a k := fun a k z w => ⟨by rw [f2.I z, f1.I w], by rw [f2.J z, f1.J w]⟩
  refine OK.mk ⟨rfl, ⟨(C1.trans (f1.mono (fun a k z => by unfold SRc; omega))).trans (f2.mono (fun a k z => by unfold SRc; omega)), ?_, by rw [(oo 5 4 (by omega) (by omega)).1]; exact C3, by rw [(oo 5 7 (by omega) (by omega)).1]; exact C4, fun i hi => ?_, fun s r1 r2 => by rw [(oo 8 s (by omega) (by omega)).1, (oo 9 s (by omega) (by omega)).2]; exact C6 s r1 r2⟩, ?_⟩
  · show hI g2 5 3 = nI (P.1.1 + 1)
    rw [f2.I (by omega)]; exact i1
  · show LVc g2 (10 + i) (setTop P.2.1 (P.1.1 + 1) (lv0 br) i)
    have hi' : i ≤ P.1.1 + 1 := hi
    unfold setTop
    by_cases z : i = P.1.1 + 1
    · rw [if_pos z, z]; exact L2
    · rw [if_neg z]; exact (C5 i (by omega)).fr (fun k => oo _ _ (by omega) (by omega))
  · show hI g2 (10 + (P.1.1 + 1)) 2 = bI false
    rw [b2]; rfl
theorem closes_C (hl : Lay h) (C : CP h g P) (hD : P.1.1 ≤ 80) (hn : P.1.2.1 ≤ 40) (hb : (top P).1.1 ≤ 2) (h0 : (P.2.1 0).1.1 = 0) {c : Nat} (hc : c = 41 ∨ c = 125) : OK (f_Pa_closes g 5 (nI c)) (fun q => if c = 41 then (if P.1.2.2.2 = true ∧ (top P).1.1 = 1 ∧ (top P).1.2.1 = true then q.1 = 1 ∧ CP h q.2 (clo1 P) else q = (0, g)) else (if P.1.2.2.2 = true ∧ (top P).1.1 = 2 then q.1 = 1 ∧ CP h q.2 (clo2 P) else q = (0, g))) := by
  obtain ⟨⟨C1, C2, C3, C4, C5, C6⟩, C7⟩ := C
  have lg := C1.lay hl
  obtain ⟨k1, k2⟩ := lvl lg hD
  have L : LVc g (10 + P.1.1) (top P) := C5 P.1.1 (Nat.le_refl _)
  simp only [f_Pa_closes, gR_n (c := 7) (kk5 lg), gI_n (c := 7) (kk5 lg), LR lg, C2, ob_v, k2]
  by_cases d0 : P.1.1 = 0
  · rw [if_pos (by rw [d0]; rfl)]
    have t0 : (top P).1.1 = 0 := by unfold top; rw [d0]; exact h0
    refine OK.mk ?_
    rw [t0]
    split
    · rw [if_neg (by omega)]
    · rw [if_neg (by omega)]
  · rw [if_neg (nI_ne0 (by omega) (by omega)), cv_n (c := 5) k1]
    obtain ⟨ok, eok⟩ : ∃ ok, ok = (P.1.2.2.2 && (if c = 41 then decide ((top P).1.1 = 1) && (top P).1.2.1 else decide ((top P).1.1 = 2))) := ⟨_, rfl⟩
    have mc : f_Le_mayClose g (10 + P.1.1) (nI c) = some (bI ok) := by
      unfold f_Le_mayClose
      rw [gI_n (c := 5) k1, C7, ob_v, eok]
      cases P.1.2.2.2 with
      | false => rfl
      | true =>
        rw [if_neg (show ¬ bI true = 0 by decide)]
        rcases hc with rfl | rfl
        · rw [if_pos (show nI 41 = 41 from rfl), gI_n (c := 5) k1, L.1, ob_v]
          by_cases q : (top P).1.1 = 1
          · rw [if_pos ((ltr_40 _ hb).mpr q), gI_n (c := 5) k1, L.2.1, ob_v]
            show (if bI (top P).1.2.1 = 0 then some 0 else some 1) = _
            rw [decide_eq_true q]
            cases (top P).1.2.1 <;> rfl
          · rw [if_neg (fun z => q ((ltr_40 _ hb).mp z)), decide_eq_false q]; rfl
        · rw [if_neg (show ¬ nI 125 = 41 by decide), gI_n (c := 5) k1, L.1, ob_v]
          by_cases q : (top P).1.1 = 2
          · rw [if_pos ((ltr_123 _ hb).mpr q), decide_eq_true q]; rfl
          · rw [if_neg (fun z => q ((ltr_123 _ hb).mp z)), decide_eq_false q]; rfl
    rw [mc, ob_v]
    cases ok with
    | false =>
      rw [if_pos (show bI false = 0 from rfl)]
      refine OK.mk ?_
      rcases hc with rfl | rfl
      · rw [if_pos rfl, if_neg]
        rintro ⟨z1, z2, z3⟩
        rw [z1, if_pos rfl, decide_eq_true z2, z3] at eok; cases eok
      · rw [if_neg (by decide), if_neg]
        rintro ⟨z1, z2⟩
        rw [z1, if_neg (by decide), decide_eq_true z2] at eok; cases eok
    | true =>
      rw [if_neg (show ¬ bI true = 0 by decide)]
      obtain ⟨g1, e1⟩ : ∃ g1, g1 = uI g 5 3 (nI (P.1.1 - 1)) := ⟨_, rfl⟩
      have p1 : pI 7 g 5 3 (nI P.1.1 - 1) = some g1 := by rw [e1, nI_sub1 (by omega)]; exact pI_n (c := 7) (kk5 lg)
      have f1 : Dfr (fun a k => a = 5 ∧ k = 3) g g1 := by rw [e1]; exact Dfr.uI (by decide) ⟨rfl, rfl⟩
      have l1 := f1.lay lg
      have k1' : hK g1 (10 + P.1.1) = (105, 0) := by rw [f1.K]; exact k1
      have L1 : LVc g1 (10 + P.1.1) (top P) := L.fr (fun k => ⟨f1.I (by omega), f1.J (by omega)⟩)
      rw [p1, ob_v]
      have F1 : Dfr SRc h g1 := C1.trans (f1.mono (fun a k z => by unfold SRc; omega))
      rcases hc with rfl | rfl
      · -- the round bracket
        rw [if_neg (show ¬ nI 41 = 125 by decide), cv_n (c := 5) k1']
        have conds : P.1.2.2.2 = true ∧ (top P).1.1 = 1 ∧ (top P).1.2.1 = true := by
          rw [if_pos rfl] at eok
          have := eok.symm
          rw [Bool.and_eq_true, Bool.and_eq_true, decide_eq_true_eq] at this
          exact ⟨this.1, this.2.1, this.2.2⟩
        obtain ⟨g2, e2, f2, L2, b2⟩ := end_L (by omega) k1' L1 conds.2.2
        have k1'' : hK g2 (10 + P.1.1) = (105, 0) := by rw [f2.K]; exact k1'
        rw [e2, ob_v, gJ_n (c := 5) k1'', L2.2.2.2.2.2.1, ob_v, gJ_n (c := 5) k1'', L2.2.2.2.2.2.2.1, ob_v, gI_n (c := 5) k1'', L2.2.2.2.2.2.2.2, ob_v]
        have F2 : Dfr SRc h g2 := F1.trans (f2.mono (fun a k z => by unfold SRc; omega))
        have l2 := F2.lay hl
        have oo : ∀ a k, ¬ a = 10 + P.1.1 → ¬ (a = 5 ∧ k = 3) → hI g2 a k = hI g a k ∧ hJ g2 a k = hJ g a k := fun a k z w => ⟨by rw [f2.I z, f1.I w], by rw [f2.J z, f1.J w]⟩
        have Q2 : CQ h g2 (dwn P) := by
          refine ⟨F2, ?_, by rw [(oo 5 4 (by omega) (by omega)).1]; exact C3, by rw [(oo 5 7 (by omega) (by omega)).1]; exact C4, fun i hi => ?_, fun s r1 r2 => by rw [(oo 8 s (by omega) (by omega)).1, (oo 9 s (by omega) (by omega)).2]; exact C6 s r1 r2⟩
          · show hI g2 5 3 = nI (P.1.1 - 1)
            rw [f2.I (by omega), e1, hI_eq]
          · have hi' : i ≤ P.1.1 - 1 := hi
            exact (C5 i (by omega)).fr (fun k => oo _ _ (by omega) (by omega))
        obtain ⟨g3, e3, c3⟩ := append_C hl Q2 (by show P.1.1 - 1 ≤ 80; omega) hn (gat (top P)).2.2.1 (gat (top P)).2.2.2.1 (gat (top P)).2.2.2.2
        rw [cv_n (c := 7) (kk5 l2), e3, ob_v]
        refine OK.mk ?_
        rw [if_pos rfl, if_pos conds]
        exact ⟨rfl, c3⟩
      · -- the curly one
        rw [if_pos (show nI 125 = 125 from rfl), gJ_n (c := 5) k1', L1.2.2.2.1, ob_v, gJ_n (c := 5) k1', L1.2.2.1, ob_v, cv_n (c := 7) (kk5 l1)]
        have conds : P.1.2.2.2 = true ∧ (top P).1.1 = 2 := by
          rw [if_neg (by decide)] at eok
          have := eok.symm
          rw [Bool.and_eq_true, decide_eq_true_eq] at this
          exact this
        have v4 : hI g1 5 4 = nI P.1.2.1 := by rw [f1.I (by omega)]; exact C3
        obtain ⟨g2, e2, f2, v2⟩ := link_C (X := (top P).1.2.2.2) (Y := (top P).1.2.2.1) l1 hn v4 (fo := P.2.2.2) (fun s s1 s2 => by rw [f1.J (by omega)]; exact (C6 s s1 s2).2)
        have l2 := f2.lay l1
        have k1'' : hK g2 (10 + P.1.1) = (105, 0) := by rw [f2.K]; exact k1'
        have L2 : LVc g2 (10 + P.1.1) (top P) := L1.fr (fun k => ⟨f2.I (by unfold OnC; omega), f2.J (by unfold OnC; omega)⟩)
        rw [e2, ob_v, gJ_n (c := 5) k1'', L2.2.2.1, ob_v, gJ_n (c := 5) k1'', L2.2.2.2.1, ob_v]
        have F2 : Dfr SRc h g2 := F1.trans (f2.mono (fun a k z => by unfold OnC at z; unfold SRc; omega))
        have oo : ∀ a k, ¬ a = 9 → ¬ (a = 5 ∧ k = 3) → hI g2 a k = hI g a k ∧ hJ g2 a k = hJ g a k := fun a k z w => ⟨by rw [f2.I z, f1.I w], by rw [f2.J z, f1.J w]⟩
        have Q2 : CQ h g2 (dwn (P.1, P.2.1, P.2.2.1, lnk P.2.2.2 P.1.2.1 (top P).1.2.2.2 (top P).1.2.2.1)) := by
          refine ⟨F2, ?_, by rw [(oo 5 4 (by omega) (by omega)).1]; exact C3, by rw [(oo 5 7 (by omega) (by omega)).1]; exact C4, fun i hi => ?_, fun s r1 r2 => ⟨by rw [(oo 8 s (by omega) (by omega)).1]; exact (C6 s r1 r2).1, v2 s r1 r2⟩⟩
          · show hI g2 5 3 = nI (P.1.1 - 1)
            rw [f2.I (by unfold OnC; omega), e1, hI_eq]
          · have hi' : i ≤ P.1.1 - 1 := hi
            exact (C5 i (by omega)).fr (fun k => oo _ _ (by omega) (by omega))
        obtain ⟨g3, e3, c3⟩ := append_C hl Q2 (by show P.1.1 - 1 ≤ 80; omega) hn (top P).1.2.2.1 (top P).1.2.2.2 true
        have e3' : f_Pa_append g2 5 (lN (2 * (top P).1.2.2.1)) (lN (2 * (top P).1.2.2.2)) (1 : Int32) = some g3 := e3
        rw [cv_n (c := 7) (kk5 l2), e3', ob_v]
        refine OK.mk ?_
        rw [if_neg (by decide), if_pos conds]
        exact ⟨rfl, c3⟩
end RC2
