/-! the reference gathers, closes, bars, takes a message -/
section RM2
variable {K : Nat} {h g : AH} {P : PSt}
theorem LVm.up {K' : Nat} {i : Nat} {l : Lv} (x : LVm K g i l) (e : K ≤ K') : LVm K' g i l := by
  obtain ⟨a1, ⟨c, c1, c2, c3⟩, a3⟩ := x
  exact ⟨a1, ⟨c, by omega, c2, c3⟩, a3⟩
theorem MQr.up {K' : Nat} (x : MQr K h g P) (e : K ≤ K') : MQr K' h g P := by
  obtain ⟨a1, a2, a3, a4, a5⟩ := x
  exact ⟨a1, a2, a3, fun i hi => (a4 i hi).up e, a5⟩
theorem gather_M (hl : Lay g) {D : Nat} {l : Lv} (hD : D ≤ 80) (v : hI g 201 21 = nI D) (L : LVm K g D l) : ∃ g', f_M_gather g 201 = some g' ∧ Dfr (fun a k => (a = 219 ∨ a = 220 ∨ a = 221) ∧ k = D) g g' ∧ hI g' 219 D = bI (l.2.2.2.2 || l.2.1) ∧ hJ g' 220 D = lN (l.2.2.1 ||| l.1.2.2.1) ∧ hJ g' 221 D = lN (l.2.2.2.1 ||| l.1.2.2.2) := by
  obtain ⟨a1, _, a3, a4, a5, a6, a7, a8⟩ := L
  obtain ⟨g1, e1⟩ : ∃ g1, g1 = uI g 219 D (bI (l.2.2.2.2 || l.2.1)) := ⟨_, rfl⟩
  have f1 : Dfr (fun a k => (a = 219 ∨ a = 220 ∨ a = 221) ∧ k = D) g g1 := by rw [e1]; exact Dfr.uI (by decide) (by omega)
  have l1 := f1.lay hl
  have p1 : wZ g 219 (nI D) (bI (l.2.2.2.2 || l.2.1)) = some g1 := by rw [e1, wZ_n (by decide) (kk219 hl) (show D < 81 by omega) (by decide), bI_and1]
  obtain ⟨g2, e2⟩ : ∃ g2, g2 = uJ g1 220 D (lN (l.2.2.1 ||| l.1.2.2.1)) := ⟨_, rfl⟩
  have f2 : Dfr (fun a k => (a = 219 ∨ a = 220 ∨ a = 221) ∧ k = D) g1 g2 := by rw [e2]; exact Dfr.uJ (by decide) (by omega)
  have l2 := f2.lay l1
  have p2 : wJ g1 220 (nI D) (lN l.2.2.1 ||| lN l.1.2.2.1) = some g2 := by rw [e2, lN_or]; exact wJ_n (by decide) (kk220 l1) (show D < 81 by omega) (by decide)
  obtain ⟨g3, e3⟩ : ∃ g3, g3 = uJ g2 221 D (lN (l.2.2.2.1 ||| l.1.2.2.2)) := ⟨_, rfl⟩
  have f3 : Dfr (fun a k => (a = 219 ∨ a = 220 ∨ a = 221) ∧ k = D) g2 g3 := by rw [e3]; exact Dfr.uJ (by decide) (by omega)
  have p3 : wJ g2 221 (nI D) (lN l.2.2.2.1 ||| lN l.1.2.2.2) = some g3 := by rw [e3, lN_or]; exact wJ_n (by decide) (kk221 l2) (show D < 81 by omega) (by decide)
  have v1 : hI g1 201 21 = nI D := by rw [f1.I (by omega)]; exact v
  have v2 : hI g2 201 21 = nI D := by rw [f2.I (by omega)]; exact v1
  have b7 : hJ g1 220 D = lN l.2.2.1 := by rw [e1]; exact a7
  have b4 : hJ g1 217 D = lN l.1.2.2.1 := by rw [e1]; exact a4
  have b8 : hJ g2 221 D = lN l.2.2.2.1 := by rw [e2, hJ_u, if_neg (by omega), e1]; exact a8
  have b5 : hJ g2 218 D = lN l.1.2.2.2 := by rw [e2, hJ_u, if_neg (by omega), e1]; exact a5
  have x11 : ((if bI l.2.2.2.2 = (0 : Int32) then if bI l.2.1 = (0 : Int32) then some (0 : Int32) else some (1 : Int32) else some (1 : Int32)) : Option Int32) = some (bI (l.2.2.2.2 || l.2.1)) := by cases l.2.2.2.2 <;> cases l.2.1 <;> rfl
  refine ⟨g3, ?_, (f1.trans f2).trans f3, ?_, ?_, ?_⟩
  · simp only [f_M_gather, gR_n (kk201 hl), gI_n (kk201 hl), LR hl, v, ob_v, rI_n (kk219 hl) (show D < 81 by omega) (by decide), a6, rI_n (kk216 hl) (show D < 81 by omega) (by decide), a3, x11, p1, gR_n (kk201 l1), gI_n (kk201 l1), LR l1, v1, rJ_n (kk220 l1) (show D < 81 by omega) (by decide), b7, rJ_n (kk217 l1) (show D < 81 by omega) (by decide), b4, p2, gR_n (kk201 l2), gI_n (kk201 l2), LR l2, v2, rJ_n (kk221 l2) (show D < 81 by omega) (by decide), b8, rJ_n (kk218 l2) (show D < 81 by omega) (by decide), b5, p3]
  · rw [e3, e2]; show hI g1 219 D = _; rw [e1, hI_eq]
  · rw [e3, hJ_u, if_neg (by omega), e2, hJ_u, if_pos ⟨rfl, rfl⟩]
  · rw [e3, hJ_u, if_pos ⟨rfl, rfl⟩]
theorem bar_M (hl : Lay h) (C : MQr K h g P) (hD : P.1.1 ≤ 80) (hK : K < 80) : ∃ g1 g2 g3 : AH, f_M_gather g 201 = some g1 ∧ Lay g1 ∧ hI g1 201 21 = nI P.1.1 ∧ wI g1 215 (nI P.1.1) (hI g1 215 P.1.1 + 1) = some g2 ∧ Lay g2 ∧ f_M_fresh g2 201 = some g3 ∧ MQr (K + 1) h g3 (barP P) := by
  obtain ⟨C1, C2, C3, C5, C6, C8⟩ := C
  have lg := C1.lay hl
  have L : LVm K g P.1.1 (top P) := C5 P.1.1 (Nat.le_refl _)
  obtain ⟨g1, e1, f1, x1, x2, x3⟩ := gather_M lg hD C2 L
  have l1 := f1.lay lg
  have v1 : hI g1 201 21 = nI P.1.1 := by rw [f1.I (by omega)]; exact C2
  obtain ⟨a1, ⟨c, c1, c2, c3⟩, a3, a4, a5, a6, a7, a8⟩ := L
  have d1 : hI g1 215 P.1.1 + 1 = nI (c + 1) := by rw [f1.I (by omega), c2, nI_1]
  obtain ⟨g2, e2⟩ : ∃ g2, g2 = uI g1 215 P.1.1 (nI (c + 1)) := ⟨_, rfl⟩
  have f2 : Dfr (fun a k => a = 215 ∧ k = P.1.1) g1 g2 := by rw [e2]; exact Dfr.uI (by decide) (by omega)
  have l2 := f2.lay l1
  have p2 : wI g1 215 (nI P.1.1) (hI g1 215 P.1.1 + 1) = some g2 := by rw [d1, e2]; exact wI_n (by decide) (kk215 l1) (show P.1.1 < 81 by omega) (by decide)
  have v2 : hI g2 201 21 = nI P.1.1 := by rw [f2.I (by omega)]; exact v1
  obtain ⟨g3, e3, f3, y1, y2, y3⟩ := fresh_M l2 hD v2
  refine ⟨g1, g2, g3, e1, l1, v1, p2, l2, e3, ?_⟩
  have oo : ∀ a k, ¬ ((215 ≤ a ∧ a ≤ 221) ∧ k = P.1.1) → hI g3 a k = hI g a k ∧ hJ g3 a k = hJ g a k := fun a k z => ⟨by rw [f3.I (by omega), f2.I (by omega), f1.I (by omega)], by rw [f3.J (by omega), f2.J (by omega), f1.J (by omega)]⟩
  refine ⟨((C1.trans (f1.mono (fun a k z => by unfold SRm; omega))).trans (f2.mono (fun a k z => by unfold SRm; omega))).trans (f3.mono (fun a k z => by unfold SRm; omega)), by rw [(oo 201 21 (by omega)).1]; exact C2, by rw [(oo 201 30 (by omega)).1]; exact C3, fun i hi => ?_, fun s r1 r2 => by rw [(oo 222 _ (by omega)).1, (oo 223 _ (by omega)).2]; exact C6 s r1 r2, fun s r1 r2 => by rw [(oo 223 _ (by omega)).2]; exact C8 s r1 r2⟩
  show LVm (K + 1) g3 i (setTop P.2.1 P.1.1 (gat (top P)) i)
  unfold setTop
  by_cases z : i = P.1.1
  · rw [if_pos z, z]
    refine ⟨?_, ⟨c + 1, by omega, ?_, ?_⟩, ?_, ?_, ?_, ?_, ?_, ?_⟩
    · rw [(oo 214 _ (by omega)).1]; exact a1
    · rw [f3.I (by omega), e2, hI_eq]
    · exact ⟨fun _ => rfl, fun _ => by omega⟩
    · rw [y1]; rfl
    · rw [y2]; rfl
    · rw [y3]; rfl
    · rw [f3.I (by omega), f2.I (by omega), x1]; rfl
    · rw [f3.J (by omega), f2.J (by omega), x2]; rfl
    · rw [f3.J (by omega), f2.J (by omega), x3]; rfl
  · rw [if_neg z]
    exact ((C5 i hi).up (by omega)).fr (fun a _ _ => oo a i (by omega))
theorem close_M (hl : Lay h) (C : MQr K h g P) (hD : P.1.1 ≤ 80) (h1 : 1 ≤ P.1.1) (hn : P.1.2.1 ≤ 40) {b : Nat} (hb : b = 1 ∨ b = 2) : OK (f_M_close g 201 (nI b)) (fun g' => MQr K h g' (if b = 1 then clo1 P else clo2 P)) := by
  obtain ⟨C1, C2, C3, C5, C6, C8⟩ := id C
  have lg := C1.lay hl
  have L : LVm K g P.1.1 (top P) := C5 P.1.1 (Nat.le_refl _)
  obtain ⟨D, eD⟩ : ∃ D, P.1.1 = D + 1 := ⟨P.1.1 - 1, by omega⟩
  have dn : (dwn P).1.1 = D := by show P.1.1 - 1 = D; omega
  have mv : nI P.1.1 - 1 = nI D := by rw [eD]; exact pk_sub (a := D + 1) (b := 1) (by omega)
  have mb : nI D + 1 = nI P.1.1 := by rw [nI_1, eD]
  unfold f_M_close
  rcases hb with rfl | rfl
  · rw [if_pos (show nI 1 = 1 from rfl)]
    obtain ⟨g1, e1, f1, x1, x2, x3⟩ := gather_M lg hD C2 L
    have l1 := f1.lay lg
    have v1 : hI g1 201 21 = nI P.1.1 := by rw [f1.I (by omega)]; exact C2
    obtain ⟨g2, e2⟩ : ∃ g2, g2 = uI g1 201 21 (nI D) := ⟨_, rfl⟩
    have f2 : Dfr (fun a k => a = 201 ∧ k = 21) g1 g2 := by rw [e2]; exact Dfr.uI (by decide) (by omega)
    have l2 := f2.lay l1
    have p2 : pI 12 g1 201 21 (nI D) = some g2 := by rw [e2]; exact pI_n (kk201 l1)
    have v2 : hI g2 201 21 = nI D := by rw [e2, hI_eq]
    have y1 : hI g2 219 P.1.1 = bI ((top P).2.2.2.2 || (top P).2.1) := by rw [f2.I (by omega)]; exact x1
    have y2 : hJ g2 220 P.1.1 = lN ((top P).2.2.1 ||| (top P).1.2.2.1) := by rw [f2.J (by omega)]; exact x2
    have y3 : hJ g2 221 P.1.1 = lN ((top P).2.2.2.1 ||| (top P).1.2.2.2) := by rw [f2.J (by omega)]; exact x3
    have oo : ∀ a k, ¬ ((219 ≤ a ∧ a ≤ 221) ∧ k = P.1.1) → ¬ (a = 201 ∧ k = 21) → hI g2 a k = hI g a k ∧ hJ g2 a k = hJ g a k := fun a k z w => ⟨by rw [f2.I (by omega), f1.I (by omega)], by rw [f2.J (by omega), f1.J (by omega)]⟩
    have Q2 : MQr K h g2 (dwn P) := by
      refine ⟨(C1.trans (f1.mono (fun a k z => by unfold SRm; omega))).trans (f2.mono (fun a k z => by unfold SRm; omega)), by rw [dn]; exact v2, by rw [(oo 201 30 (by omega) (by omega)).1]; exact C3, fun i hi => ?_, fun s r1 r2 => by rw [(oo 222 _ (by omega) (by omega)).1, (oo 223 _ (by omega) (by omega)).2]; exact C6 s r1 r2, fun s r1 r2 => by rw [(oo 223 _ (by omega) (by omega)).2]; exact C8 s r1 r2⟩
      rw [dn] at hi
      exact (C5 i (by omega)).fr (fun a _ _ => oo a i (by omega) (by omega))
    obtain ⟨g3, e3, c3⟩ := append_M hl Q2 (by rw [dn]; omega) hn ((top P).2.2.1 ||| (top P).1.2.2.1) ((top P).2.2.2.1 ||| (top P).1.2.2.2) ((top P).2.2.2.2 || (top P).2.1)
    simp only [cv_n (kk201 lg), e1, ob_v, gI_n (kk201 l1), v1, mv, p2, gR_n (kk201 l2), gI_n (kk201 l2), LR l2, v2, mb, rI_n (kk219 l2) (show P.1.1 < 81 by omega) (by decide), y1, rJ_n (kk220 l2) (show P.1.1 < 81 by omega) (by decide), y2, rJ_n (kk221 l2) (show P.1.1 < 81 by omega) (by decide), y3, cv_n (kk201 l2), e3]
    refine OK.mk ?_
    rw [if_pos trivial]
    exact c3
  · rw [if_neg (show ¬ nI 2 = 1 by decide)]
    obtain ⟨a1, _, a3, a4, a5, a6, a7, a8⟩ := L
    obtain ⟨g1, e1, f1, v1⟩ := link_M (X := (top P).1.2.2.2) (Y := (top P).1.2.2.1) lg hn C3 (fun s s1 s2 => (C6 s s1 s2).2)
    have l1 := f1.lay lg
    have w1 : hI g1 201 21 = nI P.1.1 := by rw [f1.I (by omega)]; exact C2
    obtain ⟨g2, e2⟩ : ∃ g2, g2 = uI g1 201 21 (nI D) := ⟨_, rfl⟩
    have f2 : Dfr (fun a k => a = 201 ∧ k = 21) g1 g2 := by rw [e2]; exact Dfr.uI (by decide) (by omega)
    have l2 := f2.lay l1
    have p2 : pI 12 g1 201 21 (nI D) = some g2 := by rw [e2]; exact pI_n (kk201 l1)
    have v2 : hI g2 201 21 = nI D := by rw [e2, hI_eq]
    have oo : ∀ a k, ¬ a = 223 → ¬ (a = 201 ∧ k = 21) → hI g2 a k = hI g a k ∧ hJ g2 a k = hJ g a k := fun a k z w => ⟨by rw [f2.I (by omega), f1.I (by omega)], by rw [f2.J (by omega), f1.J (by omega)]⟩
    have y4 : hJ g2 217 P.1.1 = lN (top P).1.2.2.1 := by rw [(oo 217 _ (by omega) (by omega)).2]; exact a4
    have y5 : hJ g2 218 P.1.1 = lN (top P).1.2.2.2 := by rw [(oo 218 _ (by omega) (by omega)).2]; exact a5
    have Q2 : MQr K h g2 (dwn (P.1, P.2.1, P.2.2.1, lnk P.2.2.2 P.1.2.1 (top P).1.2.2.2 (top P).1.2.2.1)) := by
      refine ⟨(C1.trans (f1.mono (fun a k z => by unfold SRm; omega))).trans (f2.mono (fun a k z => by unfold SRm; omega)), by show hI g2 201 21 = nI (P.1.1 - 1); rw [v2, eD]; rfl, by rw [(oo 201 30 (by omega) (by omega)).1]; exact C3, fun i hi => ?_, fun s r1 r2 => ⟨by rw [(oo 222 _ (by omega) (by omega)).1]; exact (C6 s r1 r2).1, by rw [f2.J (by omega)]; exact v1 s r1 r2⟩, fun s r1 r2 => ?_⟩
      · have hi' : i ≤ P.1.1 - 1 := hi
        exact (C5 i (by omega)).fr (fun a _ _ => oo a i (by omega) (by omega))
      · have r1' : P.1.2.1 ≤ s := r1
        rw [f2.J (by omega), f1.J (by omega)]; exact C8 s r1' r2
    obtain ⟨g3, e3, c3⟩ := append_M hl Q2 (by show P.1.1 - 1 ≤ 80; omega) hn (top P).1.2.2.1 (top P).1.2.2.2 true
    have e3' : f_M_append g2 201 (1 : Int32) (lN (top P).1.2.2.1) (lN (top P).1.2.2.2) = some g3 := e3
    have a4' : hJ g 217 P.1.1 = lN (top P).1.2.2.1 := a4
    have a5' : hJ g 218 P.1.1 = lN (top P).1.2.2.2 := a5
    simp only [gR_n (kk201 lg), gI_n (kk201 lg), LR lg, C2, ob_v, rJ_n (kk218 lg) (show P.1.1 < 81 by omega) (by decide), a5', rJ_n (kk217 lg) (show P.1.1 < 81 by omega) (by decide), a4', cv_n (kk201 lg), e1, gI_n (kk201 l1), w1, mv, p2, gR_n (kk201 l2), gI_n (kk201 l2), LR l2, v2, mb, rJ_n (kk217 l2) (show P.1.1 < 81 by omega) (by decide), y4, rJ_n (kk218 l2) (show P.1.1 < 81 by omega) (by decide), y5, cv_n (kk201 l2), e3']
    refine OK.mk ?_
    rw [if_neg (by decide)]
    exact c3
theorem msg_M (hl : Lay h) (C : MQr K h g P) (hD : P.1.1 ≤ 80) (hn : P.1.2.1 < 40) {c : Nat} (hc : 97 ≤ c ∧ c ≤ 104) (hs : P.1.2.2.1 = 0 ∨ P.1.2.2.1 = 1) : ∃ g1 g2 g3 : AH, wI g 222 (nI P.1.2.1) ((2 : Int32) * (nI c - 97) + P.1.2.2.1) = some g1 ∧ Lay g1 ∧ hI g1 201 30 = nI P.1.2.1 ∧ pI 12 g1 201 30 (nI (P.1.2.1 + 1)) = some g2 ∧ Lay g2 ∧ hI g2 201 30 = nI (P.1.2.1 + 1) ∧ f_M_append g2 201 (0 : Int32) (xlshl (1 : Int64) (nI (P.1.2.1 + 1) - 1)) (xlshl (1 : Int64) (nI (P.1.2.1 + 1) - 1)) = some g3 ∧ MQr K h g3 (msgP P (tN P.1.2.2.1) (c - 97)) := by
  obtain ⟨C1, C2, C3, C5, C6, C8⟩ := id C
  have lg := C1.lay hl
  obtain ⟨sv, sv2, esv⟩ : ∃ sv, sv < 2 ∧ P.1.2.2.1 = nI sv := by
    rcases hs with r | r
    · exact ⟨0, by decide, r⟩
    · exact ⟨1, by decide, r⟩
  have tsv : tN P.1.2.2.1 = sv := by rw [esv]; exact cl_nI (by omega)
  have kv : (2 : Int32) * (nI c - 97) + P.1.2.2.1 = nI (2 * (c - 97) + sv) := by rw [esv, show (97 : Int32) = nI 97 from rfl, pk_sub hc.1, show (2 : Int32) = nI 2 from rfl, pk_mul, nI_add]
  obtain ⟨g1, e1⟩ : ∃ g1, g1 = uI g 222 P.1.2.1 (nI (2 * (c - 97) + sv)) := ⟨_, rfl⟩
  have f1 : Dfr SRm g g1 := by rw [e1]; exact Dfr.uI (by decide) (by unfold SRm; omega)
  have l1 := f1.lay lg
  have p1 : wI g 222 (nI P.1.2.1) ((2 : Int32) * (nI c - 97) + P.1.2.2.1) = some g1 := by rw [kv, e1]; exact wI_n (by decide) (kk222 lg) (show P.1.2.1 < 40 by omega) (by decide)
  obtain ⟨g2, e2⟩ : ∃ g2, g2 = uI g1 201 30 (nI (P.1.2.1 + 1)) := ⟨_, rfl⟩
  have f2 : Dfr SRm g1 g2 := by rw [e2]; exact Dfr.uI (by decide) (by unfold SRm; omega)
  have l2 := f2.lay l1
  have p2 : pI 12 g1 201 30 (nI (P.1.2.1 + 1)) = some g2 := by rw [e2]; exact pI_n (kk201 l1)
  have v1 : hI g1 201 30 = nI P.1.2.1 := by rw [e1, hI_ne (by omega)]; exact C3
  have v2 : hI g2 201 30 = nI (P.1.2.1 + 1) := by rw [e2, hI_eq]
  have J2 : ∀ a k, hJ g2 a k = hJ g a k := fun a k => by rw [e2, e1]; rfl
  have oo : ∀ a k, ¬ a = 222 → ¬ (a = 201 ∧ k = 30) → hI g2 a k = hI g a k := fun a k z w => by rw [e2, hI_ne (by omega), e1, hI_ne (by omega)]
  have Q2 : MQr K h g2 ((P.1.1, P.1.2.1 + 1, -1, P.1.2.2.2), P.2.1, (fun s => if s = P.1.2.1 + 1 then (tN P.1.2.2.1, c - 97) else P.2.2.1 s), (fun s => if s = P.1.2.1 + 1 then 0 else P.2.2.2 s)) := by
    refine ⟨(C1.trans f1).trans f2, by rw [oo 201 21 (by omega) (by omega)]; exact C2, v2, fun i hi => (C5 i hi).fr (fun a _ _ => ⟨oo a i (by omega) (by omega), J2 a i⟩), fun s r1 r2 => ⟨?_, ?_⟩, fun s r1 r2 => ?_⟩
    · show hI g2 222 (s - 1) = nI (2 * (if s = P.1.2.1 + 1 then (tN P.1.2.2.1, c - 97) else P.2.2.1 s).2 + (if s = P.1.2.1 + 1 then (tN P.1.2.2.1, c - 97) else P.2.2.1 s).1)
      have r2' : s ≤ P.1.2.1 + 1 := r2
      rw [e2, hI_ne (by omega), e1]
      by_cases z : s = P.1.2.1 + 1
      · rw [z, Nat.add_sub_cancel, hI_eq, if_pos rfl, tsv]
      · rw [hI_ne (by omega), if_neg z]; exact (C6 s r1 (by omega)).1
    · show hJ g2 223 (s - 1) = lN (if s = P.1.2.1 + 1 then 0 else P.2.2.2 s)
      have r2' : s ≤ P.1.2.1 + 1 := r2
      rw [J2]
      by_cases z : s = P.1.2.1 + 1
      · rw [if_pos z, z, Nat.add_sub_cancel, C8 _ (Nat.le_refl _) (by omega)]; rfl
      · rw [if_neg z]; exact (C6 s r1 (by omega)).2
    · have r1' : P.1.2.1 + 1 ≤ s := r1
      rw [J2]; exact C8 s (by omega) r2
  obtain ⟨g3, e3, c3⟩ := append_M hl Q2 (by show P.1.1 ≤ 80; omega) (by show P.1.2.1 + 1 ≤ 40; omega) (2 ^ P.1.2.1) (2 ^ P.1.2.1) false
  have sh : xlshl (1 : Int64) (nI (P.1.2.1 + 1) - 1) = lN (2 ^ P.1.2.1) := by rw [show nI (P.1.2.1 + 1) - 1 = nI P.1.2.1 from pk_sub (a := P.1.2.1 + 1) (b := 1) (by omega), shl_1 (by omega)]
  refine ⟨g1, g2, g3, p1, l1, v1, p2, l2, v2, ?_, c3⟩
  rw [sh]; exact e3
end RM2
