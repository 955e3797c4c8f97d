/-! the class reads -/
theorem lN_or (a b : Nat) : lN a ||| lN b = lN (a ||| b) := by
  apply Int64.toBitVec_inj.mp
  show BitVec.ofNat 64 a ||| BitVec.ofNat 64 b = BitVec.ofNat 64 (a ||| b)
  apply BitVec.eq_of_getLsbD_eq
  intro i hi
  rw [BitVec.getLsbD_or, BitVec.getLsbD_ofNat, BitVec.getLsbD_ofNat, BitVec.getLsbD_ofNat, Nat.testBit_or]
  simp [hi]
theorem tb2 {X s : Nat} (hs : 1 ≤ s) : (2 * X).testBit s = X.testBit (s - 1) := by
  obtain ⟨j, rfl⟩ : ∃ j, s = j + 1 := ⟨s - 1, by omega⟩
  rw [Nat.testBit_succ, Nat.add_sub_cancel]
  congr 1
  omega
theorem tb0 (X : Nat) : (2 * X).testBit 0 = false := by
  rw [Nat.testBit_zero]
  simp
theorem or2 (a b : Nat) : 2 * a ||| 2 * b = 2 * (a ||| b) := by
  apply Nat.eq_of_testBit_eq
  intro i
  rw [Nat.testBit_or]
  by_cases z : i = 0
  · subst z; rw [tb0, tb0, tb0]; rfl
  · rw [tb2 (by omega), tb2 (by omega), tb2 (by omega), Nat.testBit_or]
theorem lbit {X s : Nat} (hs : s < 63) : (xlshr (lN X) (nI s)) &&& (1 : Int64) = lN (if X.testBit s = true then 1 else 0) := by
  have hh : (((nI s).toInt64 &&& 63).toBitVec.smod 64#64).toNat = s := by
    have : ∀ s, s < 63 → (((nI s).toInt64 &&& 63).toBitVec.smod 64#64).toNat = s := by decide +kernel
    exact this s hs
  have e : (xlshr (lN X) (nI s)).toBitVec = (lN X).toBitVec.sshiftRight s := by
    show ((lN X) >>> ((nI s).toInt64 &&& 63)).toBitVec = _
    rw [Int64.toBitVec_shiftRight]
    show (lN X).toBitVec.sshiftRight (BitVec.toNat _) = _
    exact congrArg _ hh
  apply Int64.toBitVec_inj.mp
  apply BitVec.eq_of_getLsbD_eq
  intro i hi
  have o1 : ∀ i, i < 64 → ((1 : Int64)).toBitVec.getLsbD i = decide (i = 0) := by decide
  rw [Int64.toBitVec_and, BitVec.getLsbD_and, e, BitVec.getLsbD_sshiftRight, o1 i hi]
  have r : (lN (if X.testBit s = true then 1 else 0)).toBitVec.getLsbD i = (decide (i = 0) && X.testBit s) := by
    show (BitVec.ofNat 64 _).getLsbD i = _
    rw [BitVec.getLsbD_ofNat]
    by_cases z : X.testBit s = true
    · rw [if_pos z, z]
      by_cases w : i = 0
      · subst w; simp
      · obtain ⟨j, rfl⟩ : ∃ j, i = j + 1 := ⟨i - 1, by omega⟩
        simp [Nat.testBit_succ]
    · rw [if_neg z]
      have z' : X.testBit s = false := by simpa using z
      rw [z']; simp
  rw [r]
  by_cases w : i = 0
  · subst w
    have : (lN X).toBitVec.getLsbD s = X.testBit s := by
      show (BitVec.ofNat 64 X).getLsbD s = _
      rw [BitVec.getLsbD_ofNat]; simp [show s < 64 by omega]
    rw [Nat.add_zero]
    rw [if_pos (show s < 64 by omega), this]
    simp
  · simp [w]
theorem shl_1 {s : Nat} (hs : s < 63) : xlshl (1 : Int64) (nI s) = lN (2 ^ s) := by
  have : ∀ s, s < 63 → xlshl (1 : Int64) (nI s) = lN (2 ^ s) := by decide +kernel
  exact this s hs
theorem lg_eq (x y : Int64) : (lg_cmp x y = 0) ↔ x = y := by
  unfold lg_cmp
  constructor
  · intro q
    revert q
    split
    · intro q; exact absurd q (by decide)
    · split
      · rename_i a b; intro _; exact b
      · intro q; exact absurd q (by decide)
  · intro q
    subst q
    rw [if_neg (fun z => Int64.lt_irrefl z), if_pos rfl]
def ltr (br : Nat) : Nat := if br = 0 then 0 else if br = 1 then 40 else 123
def SRc (a k : Nat) : Prop := (a = 5 ∧ (k = 3 ∨ k = 4 ∨ k = 7)) ∨ a = 8 ∨ a = 9 ∨ (10 ≤ a ∧ a ≤ 90)
def LVc (g : AH) (o : Nat) (l : Lv) : Prop := hI g o 0 = nI (ltr l.1.1) ∧ hI g o 1 = bI l.1.2.1 ∧ hJ g o 3 = lN (2 * l.1.2.2.1) ∧ hJ g o 4 = lN (2 * l.1.2.2.2) ∧ hI g o 5 = bI l.2.1 ∧ hJ g o 6 = lN (2 * l.2.2.1) ∧ hJ g o 7 = lN (2 * l.2.2.2.1) ∧ hI g o 8 = bI l.2.2.2.2
/-- a reading, as the class holds it; CP: and whether the top talk has begun -/
def CQ (h g : AH) (P : PSt) : Prop := Dfr SRc h g ∧ hI g 5 3 = nI P.1.1 ∧ hI g 5 4 = nI P.1.2.1 ∧ hI g 5 7 = P.1.2.2.1 ∧ (∀ i, i ≤ P.1.1 → LVc g (10 + i) (P.2.1 i)) ∧ ∀ s, 1 ≤ s → s ≤ P.1.2.1 → hI g 8 s = nI (8 * (P.2.2.1 s).1 + (P.2.2.1 s).2) ∧ hJ g 9 s = lN (2 * P.2.2.2 s)
def CP (h g : AH) (P : PSt) : Prop := CQ h g P ∧ hI g (10 + P.1.1) 2 = bI P.1.2.2.2
section RD
variable {h g : AH} {P : PSt}
theorem LVc.fr {g g' : AH} {o : Nat} {l : Lv} (x : LVc g o l) (e : ∀ k, hI g' o k = hI g o k ∧ hJ g' o k = hJ g o k) : LVc g' o l := by
  obtain ⟨a1, a2, a3, a4, a5, a6, a7, a8⟩ := x
  exact ⟨by rw [(e 0).1]; exact a1, by rw [(e 1).1]; exact a2, by rw [(e 3).2]; exact a3, by rw [(e 4).2]; exact a4, by rw [(e 5).1]; exact a5, by rw [(e 6).2]; exact a6, by rw [(e 7).2]; exact a7, by rw [(e 8).1]; exact a8⟩
theorem link_C (hl : Lay g) {n X Y : Nat} (hn : n ≤ 40) (v4 : hI g 5 4 = nI n) {fo : Nat → Nat} (hf : ∀ s, 1 ≤ s → s ≤ n → hJ g 9 s = lN (2 * fo s)) : OK (f_Pa_link g 5 (lN (2 * X)) (lN (2 * Y))) (fun g' => Dfr (OnC 9) g g' ∧ ∀ s, 1 ≤ s → s ≤ n → hJ g' 9 s = lN (2 * lnk fo n X Y s)) := by
  have main : ∀ N (z : Nat × AH), (1 ≤ z.1 ∧ z.1 ≤ n + 1 ∧ Dfr (OnC 9) g z.2 ∧ ∀ s, 1 ≤ s → s ≤ n → hJ z.2 9 s = lN (2 * (if s < z.1 then lnk fo n X Y s else fo s))) → n + 1 - z.1 < N → OK (f_Pa_link_L3 5 (lN (2 * X)) (lN (2 * Y)) N (nI z.1) z.2) (fun g' => Dfr (OnC 9) g g' ∧ ∀ s, 1 ≤ s → s ≤ n → hJ g' 9 s = lN (2 * lnk fo n X Y s)) := by
    refine loopU (fun N (z : Nat × AH) => f_Pa_link_L3 5 (lN (2 * X)) (lN (2 * Y)) N (nI z.1) z.2) _ (fun z => n + 1 - z.1) _ ?_
    intro N z ⟨h0, h1, h2, h3⟩ ih
    obtain ⟨s, e⟩ := z
    dsimp only at h0 h1 h2 h3 ih ⊢
    have le := h2.lay hl
    have w4 : hI e 5 4 = nI n := by rw [h2.I (by unfold OnC; omega)]; exact v4
    by_cases q : s ≤ n
    · have bb : (lg_cmp ((xlshr (lN (2 * X)) (nI s)) &&& (1 : Int64)) (0 : Int64) = 0) ↔ X.testBit (s - 1) = false := by
        rw [lbit (by omega), tb2 h0, lg_eq]
        cases X.testBit (s - 1) <;> decide
      have vs := h3 s h0 q
      rw [if_neg (by omega)] at vs
      simp only [f_Pa_link_L3, gI_n (c := 7) (kk5 le), w4, ob_v, nI_nlt q (by omega), if_false, nI_1]
      by_cases b : X.testBit (s - 1) = true
      · rw [if_neg (fun z => by rw [bb.mp z] at b; cases b)]
        have ne : wJ e 9 (nI s) (lN (2 * fo s) ||| lN (2 * Y)) = some (uJ e 9 s (lN (2 * (fo s ||| Y)))) := by rw [lN_or, or2]; exact wJ_n (by decide) (kk9 le) (show s < 41 by omega) (by decide)
        simp only [gR_n (c := 7) (kk5 le), LR le, ob_v, rJ_n (kk9 le) (show s < 41 by omega) (by decide), vs, ne]
        refine ih (s + 1, uJ e 9 s (lN (2 * (fo s ||| Y)))) ⟨by dsimp only; omega, by dsimp only; omega, h2.trans (Dfr.uJ (by decide) rfl), fun r r1 r2 => ?_⟩ (by dsimp only; omega)
        show hJ (uJ e 9 s (lN (2 * (fo s ||| Y)))) 9 r = lN (2 * (if r < s + 1 then lnk fo n X Y r else fo r))
        rw [hJ_u]
        by_cases w : r = s
        · rw [if_pos ⟨rfl, w⟩, w, if_pos (by omega)]; unfold lnk; rw [if_pos ⟨h0, q, b⟩]
        · rw [if_neg (fun z => w z.2), h3 r r1 r2]
          by_cases z : r < s
          · rw [if_pos z, if_pos (by omega)]
          · rw [if_neg z, if_neg (by omega)]
      · have b' : X.testBit (s - 1) = false := by simpa using b
        rw [if_pos (bb.mpr b')]
        refine ih (s + 1, e) ⟨by dsimp only; omega, by dsimp only; omega, h2, fun r r1 r2 => ?_⟩ (by dsimp only; omega)
        dsimp only
        rw [h3 r r1 r2]
        by_cases w : r = s
        · rw [w, if_neg (by omega), if_pos (by omega)]; unfold lnk; rw [if_neg (fun z => b z.2.2)]
        · by_cases z : r < s
          · rw [if_pos z, if_pos (by omega)]
          · rw [if_neg z, if_neg (by omega)]
    · have : s = n + 1 := by omega
      subst this
      simp only [f_Pa_link_L3, gI_n (c := 7) (kk5 le), w4, ob_v, nI_lt (show n < n + 1 by omega) (by omega), if_true]
      exact OK.mk ⟨h2, fun r r1 r2 => by rw [h3 r r1 r2, if_pos (by omega)]⟩
  exact main FU (1, g) ⟨Nat.le_refl _, by show 1 ≤ n + 1; omega, Dfr.refl, fun s s1 s2 => by rw [if_neg (by show ¬ s < 1; omega)]; exact hf s s1 s2⟩ (by show n + 1 - 1 < FU; unfold FU; omega)
theorem append_C (hl : Lay h) (C : CQ h g P) (hD : P.1.1 ≤ 80) (hn : P.1.2.1 ≤ 40) (Fi La : Nat) (id : Bool) : OK (f_Pa_append g 5 (lN (2 * Fi)) (lN (2 * La)) (bI id)) (fun g' => CP h g' (app P Fi La id)) := by
  obtain ⟨C1, C2, C3, C4, C5, C6⟩ := C
  have lg := C1.lay hl
  obtain ⟨k1, k2⟩ := lg.level (i := P.1.1) (by omega)
  obtain ⟨a1, a2, a3, a4, a5, a6, a7, a8⟩ := C5 P.1.1 (Nat.le_refl _)
  obtain ⟨g1, e1, f1, v1⟩ := link_C (X := (top P).1.2.2.2) (Y := Fi) lg hn C3 (fun s s1 s2 => (C6 s s1 s2).2)
  have e1' : f_Pa_link g 5 (lN (2 * (P.2.1 P.1.1).1.2.2.2)) (lN (2 * Fi)) = some g1 := e1
  have l1 := f1.lay lg
  have o1 : ∀ a k, ¬ a = 9 → hI g1 a k = hI g a k ∧ hJ g1 a k = hJ g a k := fun a k z => ⟨f1.I z, f1.J z⟩
  have kk : ∀ {g'}, Dfr (fun a k => a = 10 + P.1.1) g1 g' → hK g' (10 + P.1.1) = (100 + 5, 0) := fun f => by rw [f.K, f1.K]; exact k1
  obtain ⟨l, el⟩ : ∃ l, l = top P := ⟨_, rfl⟩
  have b3 : hJ g1 (10 + P.1.1) 3 = lN (2 * l.1.2.2.1) := by rw [(o1 _ _ (by omega)).2, el]; exact a3
  have b4 : hJ g1 (10 + P.1.1) 4 = lN (2 * l.1.2.2.2) := by rw [(o1 _ _ (by omega)).2, el]; exact a4
  have b5 : hI g1 (10 + P.1.1) 5 = bI l.2.1 := by rw [(o1 _ _ (by omega)).1, el]; exact a5
  -- the first steps
  obtain ⟨g2, e2⟩ : ∃ g2, g2 = (if l.2.1 = true then uJ g1 (10 + P.1.1) 3 (lN (2 * (l.1.2.2.1 ||| Fi))) else g1) := ⟨_, rfl⟩
  have f2 : Dfr (fun a k => a = 10 + P.1.1) g1 g2 := by
    rw [e2]; split
    · exact Dfr.uJ (by omega) rfl
    · exact Dfr.refl
  have s2 : ((if bI l.2.1 = (0 : Int32) then some g1 else (gJ 5 g1 (10 + P.1.1) 3).bind fun x9 => (pJ 5 g1 (10 + P.1.1) 3 (x9 ||| lN (2 * Fi))).bind fun h10 => some h10) : Option AH) = some g2 := by
    rw [e2]
    cases l.2.1 with
    | false => rfl
    | true =>
      rw [if_neg (show ¬ bI true = 0 by decide), if_pos rfl, gJ_n (c := 5) (kk Dfr.refl), b3, ob_v, lN_or, or2, pJ_n (c := 5) (kk Dfr.refl), ob_v]
  have c3 : hJ g2 (10 + P.1.1) 3 = lN (2 * (if l.2.1 = true then l.1.2.2.1 ||| Fi else l.1.2.2.1)) := by
    rw [e2]
    by_cases z : l.2.1 = true
    · rw [if_pos z, if_pos z, hJ_u, if_pos ⟨rfl, rfl⟩]
    · rw [if_neg z, if_neg z]; exact b3
  have c4 : hJ g2 (10 + P.1.1) 4 = lN (2 * l.1.2.2.2) := by
    rw [e2]; split
    · rw [hJ_u, if_neg (by omega)]; exact b4
    · exact b4
  have c5 : ∀ k, hI g2 (10 + P.1.1) k = hI g1 (10 + P.1.1) k := fun k => by rw [e2]; split <;> rfl
  -- the last ones
  have s3 : ((if bI id = (0 : Int32) then some (lN (2 * La)) else (gJ 5 g2 (10 + P.1.1) 4).bind fun x12 => some (x12 ||| lN (2 * La))) : Option Int64) = some (lN (2 * (if id = true then l.1.2.2.2 ||| La else La))) := by
    cases id with
    | false => rfl
    | true => rw [if_neg (show ¬ bI true = 0 by decide), if_pos rfl, gJ_n (c := 5) (kk f2), c4, ob_v, lN_or, or2]
  obtain ⟨g3, e3⟩ : ∃ g3, g3 = uJ g2 (10 + P.1.1) 4 (lN (2 * (if id = true then l.1.2.2.2 ||| La else La))) := ⟨_, rfl⟩
  have f3 : Dfr (fun a k => a = 10 + P.1.1) g1 g3 := by rw [e3]; exact f2.trans (Dfr.uJ (by omega) rfl)
  have p3 : pJ 5 g2 (10 + P.1.1) 4 (lN (2 * (if id = true then l.1.2.2.2 ||| La else La))) = some g3 := by rw [e3]; exact pJ_n (c := 5) (kk f2)
  have d5 : hI g3 (10 + P.1.1) 5 = bI l.2.1 := by rw [e3]; show hI g2 (10 + P.1.1) 5 = _; rw [c5]; exact b5
  have an : bI l.2.1 &&& bI id = bI (l.2.1 && id) := by cases l.2.1 <;> cases id <;> decide
  obtain ⟨g4, e4⟩ : ∃ g4, g4 = uI g3 (10 + P.1.1) 5 (bI (l.2.1 && id)) := ⟨_, rfl⟩
  have f4 : Dfr (fun a k => a = 10 + P.1.1) g1 g4 := by rw [e4]; exact f3.trans (Dfr.uI (by omega) rfl)
  have p4 : pZ 5 g3 (10 + P.1.1) 5 (bI (l.2.1 && id)) = some g4 := by rw [e4]; exact pZ_n (c := 5) (kk f3) (bI01 _)
  obtain ⟨g5, e5⟩ : ∃ g5, g5 = uI g4 (10 + P.1.1) 2 1 := ⟨_, rfl⟩
  have f5 : Dfr (fun a k => a = 10 + P.1.1) g1 g5 := by rw [e5]; exact f4.trans (Dfr.uI (by omega) rfl)
  have p5 : pZ 5 g4 (10 + P.1.1) 2 1 = some g5 := by rw [e5]; exact pZ_n (c := 5) (kk f4) (Or.inr rfl)
  simp only [f_Pa_append, gR_n (c := 7) (kk5 lg), gI_n (c := 7) (kk5 lg), LR lg, C2, ob_v, rR_n (c := 5) (kk7 lg) (show P.1.1 < 81 by omega) (by decide), k2, gJ_n (c := 5) k1, a4, cv_n (c := 7) (kk5 lg), e1', gI_n (c := 5) (kk Dfr.refl), b5, s2, s3, p3, gI_n (c := 5) (kk f3), d5, an, p4, p5]
  have oo : ∀ a k, ¬ a = 10 + P.1.1 → ¬ a = 9 → hI g5 a k = hI g a k ∧ hJ g5 a k = hJ g a k := fun a k z w => ⟨by rw [f5.I z, f1.I w], by rw [f5.J z, f1.J w]⟩
  have f05 : Dfr SRc h g5 := (C1.trans (f1.mono (fun a k z => by unfold OnC at z; unfold SRc; omega))).trans (f5.mono (fun a k z => by unfold SRc; omega))
  refine OK.mk ⟨⟨f05, ?_, ?_, ?_, fun i hi => ?_, fun s r1 r2 => ?_⟩, ?_⟩
  · show hI g5 5 3 = nI P.1.1; rw [(oo 5 3 (by omega) (by decide)).1]; exact C2
  · show hI g5 5 4 = nI P.1.2.1; rw [(oo 5 4 (by omega) (by decide)).1]; exact C3
  · show hI g5 5 7 = P.1.2.2.1; rw [(oo 5 7 (by omega) (by decide)).1]; exact C4
  · show LVc g5 (10 + i) (setTop P.2.1 P.1.1 (apL (top P) Fi La id) i)
    have hi' : i ≤ P.1.1 := hi
    unfold setTop
    by_cases z : i = P.1.1
    · rw [if_pos z, z, ← el]
      have oI : ∀ k, ¬ k = 5 → ¬ k = 2 → hI g5 (10 + P.1.1) k = hI g (10 + P.1.1) k := fun k z w => by
        rw [e5, hI_ne (by omega), e4, hI_ne (by omega), e3]
        show hI g2 (10 + P.1.1) k = _
        rw [c5, (o1 _ _ (by omega)).1]
      have oJ : ∀ k, ¬ k = 3 → ¬ k = 4 → hJ g5 (10 + P.1.1) k = hJ g (10 + P.1.1) k := fun k z w => by
        rw [e5]; show hJ g4 (10 + P.1.1) k = _
        rw [e4]; show hJ g3 (10 + P.1.1) k = _
        rw [e3, hJ_u, if_neg (by omega), e2]
        split
        · rw [hJ_u, if_neg (by omega), (o1 _ _ (by omega)).2]
        · rw [(o1 _ _ (by omega)).2]
      refine ⟨by rw [oI 0 (by decide) (by decide), el]; exact a1, by rw [oI 1 (by decide) (by decide), el]; exact a2, ?_, ?_, ?_, by rw [oJ 6 (by decide) (by decide), el]; exact a6, by rw [oJ 7 (by decide) (by decide), el]; exact a7, by rw [oI 8 (by decide) (by decide), el]; exact a8⟩
      · rw [e5]; show hJ g4 (10 + P.1.1) 3 = _
        rw [e4]; show hJ g3 (10 + P.1.1) 3 = _
        rw [e3, hJ_u, if_neg (by omega)]; exact c3
      · rw [e5]; show hJ g4 (10 + P.1.1) 4 = _
        rw [e4]; show hJ g3 (10 + P.1.1) 4 = _
        rw [e3, hJ_u, if_pos ⟨rfl, rfl⟩]; rfl
      · rw [e5, hI_ne (by omega), e4, hI_eq]; rfl
    · rw [if_neg z]
      exact (C5 i hi').fr (fun k => oo _ _ (by omega) (by omega))
  · refine ⟨by show hI g5 8 s = _; rw [(oo 8 s (by omega) (by decide)).1]; exact (C6 s r1 r2).1, ?_⟩
    show hJ g5 9 s = lN (2 * lnk P.2.2.2 P.1.2.1 (top P).1.2.2.2 Fi s)
    rw [f5.J (by omega)]; exact v1 s r1 r2
  · show hI g5 (10 + P.1.1) 2 = bI true
    rw [e5, hI_eq]; rfl
end RD
