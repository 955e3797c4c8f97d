/-! the reference reads -/
def SRm (a k : Nat) : Prop := (a = 201 ∧ (k = 21 ∨ k = 30 ∨ k = 33 ∨ k = 34)) ∨ (214 ≤ a ∧ a ≤ 223)
def LVm (K : Nat) (g : AH) (i : Nat) (l : Lv) : Prop := hI g 214 i = nI l.1.1 ∧ (∃ c, c ≤ K ∧ hI g 215 i = nI c ∧ (0 < c ↔ l.1.2.1 = true)) ∧ hI g 216 i = bI l.2.1 ∧ hJ g 217 i = lN l.1.2.2.1 ∧ hJ g 218 i = lN l.1.2.2.2 ∧ hI g 219 i = bI l.2.2.2.2 ∧ hJ g 220 i = lN l.2.2.1 ∧ hJ g 221 i = lN l.2.2.2.1
def MQr (K : Nat) (h g : AH) (P : PSt) : Prop := Dfr SRm h g ∧ hI g 201 21 = nI P.1.1 ∧ hI g 201 30 = nI P.1.2.1 ∧ (∀ i, i ≤ P.1.1 → LVm K g i (P.2.1 i)) ∧ (∀ s, 1 ≤ s → s ≤ P.1.2.1 → hI g 222 (s - 1) = nI (2 * (P.2.2.1 s).2 + (P.2.2.1 s).1) ∧ hJ g 223 (s - 1) = lN (P.2.2.2 s)) ∧ ∀ s, P.1.2.1 ≤ s → s < 40 → hJ g 223 s = 0
section RM
variable {K : Nat} {h g : AH} {P : PSt}
theorem LVm.fr {g g' : AH} {i : Nat} {l : Lv} (x : LVm K g i l) (e : ∀ a, 214 ≤ a → a ≤ 221 → hI g' a i = hI g a i ∧ hJ g' a i = hJ g a i) : LVm K g' i l := by
  obtain ⟨a1, ⟨c, c1, c2, c3⟩, a3, a4, a5, a6, a7, a8⟩ := x
  exact ⟨by rw [(e 214 (by decide) (by decide)).1]; exact a1, ⟨c, c1, by rw [(e 215 (by decide) (by decide)).1]; exact c2, c3⟩, by rw [(e 216 (by decide) (by decide)).1]; exact a3, by rw [(e 217 (by decide) (by decide)).2]; exact a4, by rw [(e 218 (by decide) (by decide)).2]; exact a5, by rw [(e 219 (by decide) (by decide)).1]; exact a6, by rw [(e 220 (by decide) (by decide)).2]; exact a7, by rw [(e 221 (by decide) (by decide)).2]; exact a8⟩
theorem fresh_M (hl : Lay g) {D : Nat} (hD : D ≤ 80) (v : hI g 201 21 = nI D) : ∃ g', f_M_fresh g 201 = some g' ∧ Dfr (fun a k => (a = 216 ∨ a = 217 ∨ a = 218) ∧ k = D) g g' ∧ hI g' 216 D = 1 ∧ hJ g' 217 D = 0 ∧ hJ g' 218 D = 0 := by
  obtain ⟨g1, e1⟩ : ∃ g1, g1 = uI g 216 D 1 := ⟨_, rfl⟩
  have f1 : Dfr (fun a k => (a = 216 ∨ a = 217 ∨ a = 218) ∧ k = D) g g1 := by rw [e1]; exact Dfr.uI (by decide) ⟨Or.inl rfl, rfl⟩
  have l1 := f1.lay hl
  have p1 : wZ g 216 (nI D) 1 = some g1 := by rw [e1]; exact wZ_n (by decide) (kk216 hl) (show D < 81 by omega) (by decide)
  obtain ⟨g2, e2⟩ : ∃ g2, g2 = uJ g1 217 D 0 := ⟨_, rfl⟩
  have f2 : Dfr (fun a k => (a = 216 ∨ a = 217 ∨ a = 218) ∧ k = D) g1 g2 := by rw [e2]; exact Dfr.uJ (by decide) ⟨Or.inr (Or.inl rfl), rfl⟩
  have l2 := f2.lay l1
  have p2 : wJ g1 217 (nI D) 0 = some g2 := by rw [e2]; exact wJ_n (by decide) (kk217 l1) (show D < 81 by omega) (by decide)
  obtain ⟨g3, e3⟩ : ∃ g3, g3 = uJ g2 218 D 0 := ⟨_, rfl⟩
  have f3 : Dfr (fun a k => (a = 216 ∨ a = 217 ∨ a = 218) ∧ k = D) g2 g3 := by rw [e3]; exact Dfr.uJ (by decide) ⟨Or.inr (Or.inr rfl), rfl⟩
  have p3 : wJ g2 218 (nI D) 0 = some g3 := by rw [e3]; exact wJ_n (by decide) (kk218 l2) (show D < 81 by omega) (by decide)
  have v1 : hI g1 201 21 = nI D := by rw [f1.I (by omega)]; exact v
  have v2 : hI g2 201 21 = nI D := by rw [f2.I (by omega)]; exact v1
  refine ⟨g3, ?_, (f1.trans f2).trans f3, ?_, ?_, ?_⟩
  · simp only [f_M_fresh, gR_n (kk201 hl), gI_n (kk201 hl), LR hl, v, ob_v, p1, gR_n (kk201 l1), gI_n (kk201 l1), LR l1, v1, p2, gR_n (kk201 l2), gI_n (kk201 l2), LR l2, v2, p3]
  · rw [e3, e2]; show hI g1 216 D = 1; rw [e1, hI_eq]
  · rw [e3, hJ_u, if_neg (by omega), e2, hJ_u, if_pos ⟨rfl, rfl⟩]
  · rw [e3, hJ_u, if_pos ⟨rfl, rfl⟩]
theorem open_M (hl : Lay g) {D : Nat} (hD : D ≤ 80) {v : Int32} (v21 : hI g 201 21 = v) (vD : v + 1 = nI D) {br : Nat} : ∃ g', f_M_open g 201 (nI br) = some g' ∧ Dfr (fun a k => (a = 201 ∧ k = 21) ∨ (214 ≤ a ∧ a ≤ 221 ∧ k = D)) g g' ∧ hI g' 201 21 = nI D ∧ LVm K g' D (lv0 br) := by
  obtain ⟨g1, e1⟩ : ∃ g1, g1 = uI g 201 21 (nI D) := ⟨_, rfl⟩
  have f1 : Dfr (fun a k => (a = 201 ∧ k = 21) ∨ (214 ≤ a ∧ a ≤ 221 ∧ k = D)) g g1 := by rw [e1]; exact Dfr.uI (by decide) (by omega)
  have l1 := f1.lay hl
  have p1 : pI 12 g 201 21 (nI D) = some g1 := by rw [e1]; exact pI_n (kk201 hl)
  obtain ⟨g2, e2⟩ : ∃ g2, g2 = uI g1 214 D (nI br) := ⟨_, rfl⟩
  have f2 : Dfr (fun a k => (a = 201 ∧ k = 21) ∨ (214 ≤ a ∧ a ≤ 221 ∧ k = D)) g1 g2 := by rw [e2]; exact Dfr.uI (by decide) (by omega)
  have l2 := f2.lay l1
  have p2 : wI g1 214 (nI D) (nI br) = some g2 := by rw [e2]; exact wI_n (by decide) (kk214 l1) (show D < 81 by omega) (by decide)
  obtain ⟨g3, e3⟩ : ∃ g3, g3 = uI g2 215 D 0 := ⟨_, rfl⟩
  have f3 : Dfr (fun a k => (a = 201 ∧ k = 21) ∨ (214 ≤ a ∧ a ≤ 221 ∧ k = D)) g2 g3 := by rw [e3]; exact Dfr.uI (by decide) (by omega)
  have l3 := f3.lay l2
  have p3 : wI g2 215 (nI D) 0 = some g3 := by rw [e3]; exact wI_n (by decide) (kk215 l2) (show D < 81 by omega) (by decide)
  obtain ⟨g4, e4⟩ : ∃ g4, g4 = uI g3 219 D 0 := ⟨_, rfl⟩
  have f4 : Dfr (fun a k => (a = 201 ∧ k = 21) ∨ (214 ≤ a ∧ a ≤ 221 ∧ k = D)) g3 g4 := by rw [e4]; exact Dfr.uI (by decide) (by omega)
  have l4 := f4.lay l3
  have p4 : wZ g3 219 (nI D) 0 = some g4 := by rw [e4]; exact wZ_n (by decide) (kk219 l3) (show D < 81 by omega) (by decide)
  obtain ⟨g5, e5⟩ : ∃ g5, g5 = uJ g4 220 D 0 := ⟨_, rfl⟩
  have f5 : Dfr (fun a k => (a = 201 ∧ k = 21) ∨ (214 ≤ a ∧ a ≤ 221 ∧ k = D)) g4 g5 := by rw [e5]; exact Dfr.uJ (by decide) (by omega)
  have l5 := f5.lay l4
  have p5 : wJ g4 220 (nI D) 0 = some g5 := by rw [e5]; exact wJ_n (by decide) (kk220 l4) (show D < 81 by omega) (by decide)
  obtain ⟨g6, e6⟩ : ∃ g6, g6 = uJ g5 221 D 0 := ⟨_, rfl⟩
  have f6 : Dfr (fun a k => (a = 201 ∧ k = 21) ∨ (214 ≤ a ∧ a ≤ 221 ∧ k = D)) g5 g6 := by rw [e6]; exact Dfr.uJ (by decide) (by omega)
  have l6 := f6.lay l5
  have p6 : wJ g5 221 (nI D) 0 = some g6 := by rw [e6]; exact wJ_n (by decide) (kk221 l5) (show D < 81 by omega) (by decide)
  have I6 : ∀ a k, hI g6 a k = hI g4 a k := fun a k => by rw [e6, e5]; rfl
  have I5 : ∀ a k, hI g5 a k = hI g4 a k := fun a k => by rw [e5]; rfl
  have w1 : hI g1 201 21 = nI D := by rw [e1, hI_eq]
  have w2 : hI g2 201 21 = nI D := by rw [e2, hI_ne (by omega)]; exact w1
  have w3 : hI g3 201 21 = nI D := by rw [e3, hI_ne (by omega)]; exact w2
  have w4 : hI g4 201 21 = nI D := by rw [e4, hI_ne (by omega)]; exact w3
  have w5 : hI g5 201 21 = nI D := by rw [I5]; exact w4
  have w6 : hI g6 201 21 = nI D := by rw [I6]; exact w4
  obtain ⟨g7, e7, f7, x1, x2, x3⟩ := fresh_M l6 hD w6
  refine ⟨g7, ?_, (((((f1.trans f2).trans f3).trans f4).trans f5).trans f6).trans (f7.mono (fun a k z => by omega)), ?_, ?_⟩
  · simp only [f_M_open, gI_n (kk201 hl), v21, vD, ob_v, p1, gR_n (kk201 l1), gI_n (kk201 l1), LR l1, w1, p2, gR_n (kk201 l2), gI_n (kk201 l2), LR l2, w2, p3, gR_n (kk201 l3), gI_n (kk201 l3), LR l3, w3, p4, gR_n (kk201 l4), gI_n (kk201 l4), LR l4, w4, p5, gR_n (kk201 l5), gI_n (kk201 l5), LR l5, w5, p6, cv_n (kk201 l6), e7]
  · rw [f7.I (by omega)]; exact w6
  · refine ⟨?_, ⟨0, Nat.zero_le _, ?_, by show (0 < 0 ↔ false = true); decide⟩, ?_, ?_, ?_, ?_, ?_, ?_⟩
    · rw [f7.I (by omega), I6, e4, hI_ne (by omega), e3, hI_ne (by omega), e2, hI_eq]; rfl
    · rw [f7.I (by omega), I6, e4, hI_ne (by omega), e3, hI_eq]; rfl
    · rw [x1]; rfl
    · rw [x2]; rfl
    · rw [x3]; rfl
    · rw [f7.I (by omega), I6, e4, hI_eq]; rfl
    · rw [f7.J (by omega), e6, hJ_u, if_neg (by omega), e5, hJ_u, if_pos ⟨rfl, rfl⟩]; rfl
    · rw [f7.J (by omega), e6, hJ_u, if_pos ⟨rfl, rfl⟩]; rfl
theorem link_M (hl : Lay g) {n X Y : Nat} (hn : n ≤ 40) (v30 : hI g 201 30 = nI n) {fo : Nat → Nat} (hf : ∀ s, 1 ≤ s → s ≤ n → hJ g 223 (s - 1) = lN (fo s)) : OK (f_M_link g 201 (lN X) (lN Y)) (fun g' => Dfr (fun a k => a = 223 ∧ k < n) g g' ∧ ∀ s, 1 ≤ s → s ≤ n → hJ g' 223 (s - 1) = lN (lnk fo n X Y s)) := by
  have main : ∀ N (z : Nat × AH), (z.1 ≤ n ∧ Dfr (fun a k => a = 223 ∧ k < n) g z.2 ∧ ∀ s, 1 ≤ s → s ≤ n → hJ z.2 223 (s - 1) = lN (if s ≤ z.1 then lnk fo n X Y s else fo s)) → n - z.1 < N → OK (f_M_link_L3 201 (lN X) (lN Y) N (nI z.1) z.2) (fun g' => Dfr (fun a k => a = 223 ∧ k < n) g g' ∧ ∀ s, 1 ≤ s → s ≤ n → hJ g' 223 (s - 1) = lN (lnk fo n X Y s)) := by
    refine loopU (fun N (z : Nat × AH) => f_M_link_L3 201 (lN X) (lN Y) N (nI z.1) z.2) _ (fun z => n - z.1) _ ?_
    intro N z ⟨h1, h2, h3⟩ ih
    obtain ⟨s, e⟩ := z
    dsimp only at h1 h2 h3 ih ⊢
    have le := h2.lay hl
    have w : hI e 201 30 = nI n := by rw [h2.I (by omega)]; exact v30
    by_cases q : s < n
    · have vs := h3 (s + 1) (by omega) (by omega)
      rw [if_neg (by omega), Nat.add_sub_cancel] at vs
      have x5 : ((if lg_cmp ((xlshr (lN X) (nI s)) &&& (1 : Int64)) (1 : Int64) = (0 : Int32) then some (lN Y) else some (0 : Int64)) : Option Int64) = some (lN (if X.testBit s = true then Y else 0)) := by
        rw [lbit (by omega)]
        cases z : X.testBit s with
        | false => rw [if_neg (by decide), if_neg (by decide)]; rfl
        | true => rw [if_pos (by decide), if_pos rfl]
      have ne : wJ e 223 (nI s) (lN (fo (s + 1)) ||| lN (if X.testBit s = true then Y else 0)) = some (uJ e 223 s (lN (lnk fo n X Y (s + 1)))) := by
        rw [lN_or, wJ_n (by decide) (kk223 le) (show s < 40 by omega) (by decide)]
        congr 3
        unfold lnk
        rw [Nat.add_sub_cancel]
        by_cases z : X.testBit s = true
        · rw [if_pos z, if_pos ⟨by omega, by omega, z⟩]
        · rw [if_neg z, if_neg (fun y => z y.2.2), Nat.or_zero]
      simp only [f_M_link_L3, gI_n (kk201 le), w, ob_v, nI_lt q (by omega), if_true, gR_n (kk201 le), LR le, rJ_n (kk223 le) (show s < 40 by omega) (by decide), vs]
      rw [x5, ob_v, ne, ob_v, nI_1]
      refine ih (s + 1, uJ e 223 s (lN (lnk fo n X Y (s + 1)))) ⟨by dsimp only; omega, h2.trans (Dfr.uJ (by decide) ⟨rfl, q⟩), fun r r1 r2 => ?_⟩ (by dsimp only; omega)
      show hJ (uJ e 223 s (lN (lnk fo n X Y (s + 1)))) 223 (r - 1) = lN (if r ≤ s + 1 then lnk fo n X Y r else fo r)
      rw [hJ_u]
      by_cases z : r = s + 1
      · rw [if_pos ⟨rfl, by omega⟩, if_pos (by omega), z]
      · rw [if_neg (by omega), h3 r r1 r2]
        by_cases y : r ≤ s
        · rw [if_pos y, if_pos (by omega)]
        · rw [if_neg y, if_neg (by omega)]
    · have : s = n := by omega
      subst this
      simp only [f_M_link_L3, gI_n (kk201 le), w, ob_v, nI_nlt (Nat.le_refl s) (by omega), if_false]
      exact OK.mk ⟨h2, fun r r1 r2 => by rw [h3 r r1 r2, if_pos r2]⟩
  exact main FU (0, g) ⟨Nat.zero_le _, Dfr.refl, fun s s1 s2 => by rw [if_neg (by show ¬ s ≤ 0; omega)]; exact hf s s1 s2⟩ (by show n - 0 < FU; unfold FU; omega)
theorem append_M (hl : Lay h) (C : MQr K h g P) (hD : P.1.1 ≤ 80) (hn : P.1.2.1 ≤ 40) (Fi La : Nat) (id : Bool) : OK (f_M_append g 201 (bI id) (lN Fi) (lN La)) (fun g' => MQr K h g' (app P Fi La id)) := by
  obtain ⟨C1, C2, C3, C5, C6, C8⟩ := C
  have lg := C1.lay hl
  obtain ⟨a1, ⟨cb, cb1, cb2, cb3⟩, a3, a4, a5, a6, a7, a8⟩ := C5 P.1.1 (Nat.le_refl _)
  obtain ⟨l, el⟩ : ∃ l, l = top P := ⟨_, rfl⟩
  obtain ⟨g1, e1, f1, v1⟩ := link_M (X := (top P).1.2.2.2) (Y := Fi) lg hn C3 (fun s s1 s2 => (C6 s s1 s2).2)
  have e1' : f_M_link g 201 (lN (P.2.1 P.1.1).1.2.2.2) (lN Fi) = some g1 := e1
  have l1 := f1.lay lg
  have o1 : ∀ a k, ¬ a = 223 → hI g1 a k = hI g a k ∧ hJ g1 a k = hJ g a k := fun a k z => ⟨f1.I (by omega), f1.J (by omega)⟩
  have w1 : hI g1 201 21 = nI P.1.1 := by rw [(o1 201 21 (by decide)).1]; exact C2
  have b17 : hJ g1 217 P.1.1 = lN l.1.2.2.1 := by rw [(o1 217 _ (by decide)).2, el]; exact a4
  have b18 : hJ g1 218 P.1.1 = lN l.1.2.2.2 := by rw [(o1 218 _ (by decide)).2, el]; exact a5
  have b16 : hI g1 216 P.1.1 = bI l.2.1 := by rw [(o1 216 _ (by decide)).1, el]; exact a3
  have x14 : ((if bI l.2.1 = (0 : Int32) then some (0 : Int64) else some (lN Fi)) : Option Int64) = some (lN (if l.2.1 = true then Fi else 0)) := by cases l.2.1 <;> rfl
  obtain ⟨g2, e2⟩ : ∃ g2, g2 = uJ g1 217 P.1.1 (lN (l.1.2.2.1 ||| (if l.2.1 = true then Fi else 0))) := ⟨_, rfl⟩
  have p2 : wJ g1 217 (nI P.1.1) (lN l.1.2.2.1 ||| lN (if l.2.1 = true then Fi else 0)) = some g2 := by rw [e2, lN_or]; exact wJ_n (by decide) (kk217 l1) (show P.1.1 < 81 by omega) (by decide)
  have f2 : Dfr (fun a k => (a = 216 ∨ a = 217 ∨ a = 218) ∧ k = P.1.1) g1 g2 := by rw [e2]; exact Dfr.uJ (by decide) ⟨Or.inr (Or.inl rfl), rfl⟩
  have l2 := f2.lay l1
  have w2 : hI g2 201 21 = nI P.1.1 := by rw [f2.I (by omega)]; exact w1
  have c18 : hJ g2 218 P.1.1 = lN l.1.2.2.2 := by rw [e2, hJ_u, if_neg (by omega)]; exact b18
  have x22 : ((if bI id = (0 : Int32) then some (lN La) else
      (gR 12 g2 201 26).bind fun r18 =>
      (gI 12 g2 201 21).bind fun x19 =>
      (r18).bind fun a20 =>
      (rJ g2 a20 x19).bind fun x21 =>
      some ((x21 ||| lN La))) : Option Int64) = some (lN (if id = true then l.1.2.2.2 ||| La else La)) := by
    cases id with
    | false => rfl
    | true =>
      rw [if_neg (show ¬ bI true = 0 by decide), if_pos rfl]
      simp only [gR_n (kk201 l2), gI_n (kk201 l2), LR l2, w2, ob_v, rJ_n (kk218 l2) (show P.1.1 < 81 by omega) (by decide), c18, lN_or]
  obtain ⟨g3, e3⟩ : ∃ g3, g3 = uJ g2 218 P.1.1 (lN (if id = true then l.1.2.2.2 ||| La else La)) := ⟨_, rfl⟩
  have p3 : wJ g2 218 (nI P.1.1) (lN (if id = true then l.1.2.2.2 ||| La else La)) = some g3 := by rw [e3]; exact wJ_n (by decide) (kk218 l2) (show P.1.1 < 81 by omega) (by decide)
  have f3 : Dfr (fun a k => (a = 216 ∨ a = 217 ∨ a = 218) ∧ k = P.1.1) g2 g3 := by rw [e3]; exact Dfr.uJ (by decide) ⟨Or.inr (Or.inr rfl), rfl⟩
  have l3 := f3.lay l2
  have w3 : hI g3 201 21 = nI P.1.1 := by rw [f3.I (by omega)]; exact w2
  have c16 : hI g3 216 P.1.1 = bI l.2.1 := by rw [e3, e2]; exact b16
  have x31 : ((if bI l.2.1 = (0 : Int32) then some (0 : Int32) else if bI id = (0 : Int32) then some (0 : Int32) else some (1 : Int32)) : Option Int32) = some (bI (l.2.1 && id)) := by cases l.2.1 <;> cases id <;> rfl
  obtain ⟨g4, e4⟩ : ∃ g4, g4 = uI g3 216 P.1.1 (bI (l.2.1 && id)) := ⟨_, rfl⟩
  have p4 : wZ g3 216 (nI P.1.1) (bI (l.2.1 && id)) = some g4 := by rw [e4, wZ_n (by decide) (kk216 l3) (show P.1.1 < 81 by omega) (by decide), bI_and1]
  have f4 : Dfr (fun a k => (a = 216 ∨ a = 217 ∨ a = 218) ∧ k = P.1.1) g3 g4 := by rw [e4]; exact Dfr.uI (by decide) ⟨Or.inl rfl, rfl⟩
  simp only [f_M_append, gR_n (kk201 lg), gI_n (kk201 lg), LR lg, C2, ob_v, rJ_n (kk218 lg) (show P.1.1 < 81 by omega) (by decide), a5, cv_n (kk201 lg), e1', gR_n (kk201 l1), gI_n (kk201 l1), LR l1, w1, rJ_n (kk217 l1) (show P.1.1 < 81 by omega) (by decide), b17, rI_n (kk216 l1) (show P.1.1 < 81 by omega) (by decide), b16]
  rw [x14, ob_v, p2, ob_v]
  simp only [gR_n (kk201 l2), gI_n (kk201 l2), LR l2, w2, ob_v] at x22 ⊢
  rw [x22, ob_v, p3, ob_v]
  simp only [gR_n (kk201 l3), gI_n (kk201 l3), LR l3, w3, ob_v, rI_n (kk216 l3) (show P.1.1 < 81 by omega) (by decide), c16]
  rw [x31, ob_v, p4, ob_v]
  have f24 := (f2.trans f3).trans f4
  have oo : ∀ a k, ¬ ((a = 216 ∨ a = 217 ∨ a = 218) ∧ k = P.1.1) → ¬ a = 223 → hI g4 a k = hI g a k ∧ hJ g4 a k = hJ g a k := fun a k z w => ⟨by rw [f24.I z, (o1 a k w).1], by rw [f24.J z, (o1 a k w).2]⟩
  have F4 : Dfr SRm h g4 := (C1.trans (f1.mono (fun a k z => by unfold SRm; omega))).trans (f24.mono (fun a k z => by unfold SRm; omega))
  have J4 : ∀ a k, hJ g4 a k = hJ g3 a k := fun a k => by rw [e4]; rfl
  refine OK.mk ⟨F4, by show hI g4 201 21 = nI P.1.1; rw [(oo 201 21 (by omega) (by decide)).1]; exact C2, by show hI g4 201 30 = nI P.1.2.1; rw [(oo 201 30 (by omega) (by decide)).1]; exact C3, fun i hi => ?_, fun s r1 r2 => ⟨?_, ?_⟩, fun s r1 r2 => ?_⟩
  · show LVm K g4 i (setTop P.2.1 P.1.1 (apL (top P) Fi La id) i)
    have hi' : i ≤ P.1.1 := hi
    unfold setTop
    by_cases z : i = P.1.1
    · rw [if_pos z, z, ← el]
      refine ⟨?_, ⟨cb, cb1, ?_, ?_⟩, ?_, ?_, ?_, ?_, ?_, ?_⟩
      · rw [(oo 214 _ (by omega) (by decide)).1, el]; exact a1
      · rw [(oo 215 _ (by omega) (by decide)).1]; exact cb2
      · rw [el]; exact cb3
      · rw [e4, hI_eq]; rfl
      · rw [J4, e3, hJ_u, if_neg (by omega), e2, hJ_u, if_pos ⟨rfl, rfl⟩]
        show lN (l.1.2.2.1 ||| (if l.2.1 = true then Fi else 0)) = lN (if l.2.1 = true then l.1.2.2.1 ||| Fi else l.1.2.2.1)
        cases l.2.1 with
        | true => rfl
        | false => rw [if_neg (by decide), if_neg (by decide), Nat.or_zero]
      · rw [J4, e3, hJ_u, if_pos ⟨rfl, rfl⟩]; rfl
      · rw [(oo 219 _ (by omega) (by decide)).1, el]; exact a6
      · rw [(oo 220 _ (by omega) (by decide)).2, el]; exact a7
      · rw [(oo 221 _ (by omega) (by decide)).2, el]; exact a8
    · rw [if_neg z]
      exact (C5 i hi').fr (fun a _ _ => oo a i (by omega) (by omega))
  · rw [(oo 222 _ (by omega) (by decide)).1]; exact (C6 s r1 r2).1
  · show hJ g4 223 (s - 1) = lN (lnk P.2.2.2 P.1.2.1 (top P).1.2.2.2 Fi s)
    rw [f24.J (by omega)]; exact v1 s r1 r2
  · have r1' : P.1.2.1 ≤ s := r1
    rw [f24.J (by omega), f1.J (by omega)]; exact C8 s r1' r2
end RM
