/-! talk() -/
section OT
variable {h g : AH} {P : PSt}
theorem TK.keep {h' : AH} {t a n : Nat} (T : TK h t a n) (hm : hM h ≤ hM h') (kk : ∀ b, a ≤ b → b ≤ a + 3 → hK h' b = hK h b ∧ (∀ k, hI h' b k = hI h b k) ∧ ∀ k, hR h' b k = hR h b k) (k203 : hI h' 203 t = hI h 203 t) (k204 : ∀ j, 400 * t ≤ j → j < 400 * t + 400 → hI h' 204 j = hI h 204 j) (k205 : ∀ j, 25 * t ≤ j → j < 25 * t + 25 → hI h' 205 j = hI h 205 j) : TK h' t a n := by
  obtain ⟨r1, r2, r3, ⟨r4, r5, r6, r7⟩, ⟨r8, r9, r10⟩, r11, r12, r13, r14, r15, r16⟩ := T
  have en' : ∀ s, s ≤ n → en h' t s = en h t s := fun s hs => k205 _ (by omega) (by omega)
  have nx' : ∀ s, s ≤ n → ∀ k, k < 16 → nx h' t s k = nx h t s k := fun s hs k hk => k204 _ (by omega) (by omega)
  have K0 := kk a (by omega) (by omega)
  have K1 := kk (a + 1) (by omega) (by omega)
  have K2 := kk (a + 2) (by omega) (by omega)
  have K3 := kk (a + 3) (by omega) (by omega)
  refine ⟨r1, r2, by omega, ⟨by rw [K0.1]; exact r4, by rw [K1.1]; exact r5, by rw [K2.1]; exact r6, by rw [K3.1]; exact r7⟩, ⟨by rw [K0.2.2]; exact r8, by rw [K0.2.2]; exact r9, by rw [K0.2.2]; exact r10⟩, by rw [K0.2.1]; exact r11, by rw [k203]; exact r12, fun s hs k hk => ?_, fun s hs => ?_, ?_, fun s hs => ⟨?_, ?_⟩⟩
  · rw [K1.2.1, nx' s hs k hk]; exact r13 s hs k hk
  · rw [en' s hs]; exact r14 s hs
  · rw [K0.2.1, r15]
    congr 1
    exact msk_ext (fun i hi => by rw [en' i (by omega)])
  · rw [K2.2.1, (r16 s hs).1]
    congr 1
    exact msk_ext (fun i hi => by rw [nx' s hs i (by omega)])
  · rw [K3.2.1, (r16 s hs).2]
    congr 1
    exact msk_ext (fun i hi => by rw [nx' s hs (8 + i) (by omega)])
theorem whole_C (hl : Lay g) (C : CP h g P) (hD : P.1.1 ≤ 80) : f_Pa_isWhole g 5 = some (bI (decide (P.1.1 = 0) && (P.1.2.2.2 && decide (P.1.2.2.1 = -1)))) := by
  obtain ⟨k1, k2⟩ := lvl0 hl
  obtain ⟨⟨_, c1, _, c2, _⟩, c3⟩ := C
  unfold f_Pa_isWhole
  rw [gI_n (c := 7) (kk5 hl), ob_v, c2]
  by_cases a : P.1.2.2.1 = -1
  · rw [if_pos a, gI_n (c := 7) (kk5 hl), ob_v, c1, decide_eq_true a]
    by_cases b : P.1.1 = 0
    · rw [b] at c3
      rw [if_pos (by rw [b]; rfl), gR_n (c := 7) (kk5 hl), ob_v, decide_eq_true b]
      simp only [LR hl, ob_v]
      rw [k2, ob_v, ob_v, gI_n (c := 5) k1, ob_v, show hI g 10 2 = bI P.1.2.2.2 from c3]
      cases P.1.2.2.2 <;> rfl
    · rw [if_neg (nI_ne0 (by omega) (by omega)), decide_eq_false b]; rfl
  · rw [if_neg a, decide_eq_false a]
    cases P.1.2.2.2 <;> cases decide (P.1.1 = 0) <;> rfl
def STk (tn a k : Nat) : Prop := SRd a k ∨ (a = 4 ∧ k = 2) ∨ (a = 5 ∧ k = 1) ∨ (a = 91 ∧ k = tn) ∨ (a = 201 ∧ (k = 2 ∨ k = 0)) ∨ (a = 203 ∧ k = tn) ∨ (a = 204 ∧ 400 * tn ≤ k) ∨ (a = 205 ∧ 25 * tn ≤ k)
def GTalk (h h2 : AH) (tn : Nat) (ta ts : Nat → Nat) (pg : Nat → Nat) : Prop := tn < 6 ∧ (∃ n, n ≤ 24 ∧ RTalks h2 (tn + 1) (fun t => if t = tn then hM h else ta t) (fun t => if t = tn then n else ts t)) ∧ hM h2 = hM h + 4 ∧ hZ h2 ≤ hZ h + 455 ∧ Lay h2 ∧ RPage h2 0 pg ∧ Ag (fun a k => ¬ STk tn a k) h h2
theorem o_talk {tn pn : Nat} {ta ts pg : Nat → Nat} (hl : Lay h) (rt : RTalks h tn ta ts) (rp : RPage h pn pg) : ∃ r h1 h2, f_C_talk h 4 = some (r, h1) ∧ f_M_talk h1 201 = some (r, h2) ∧ (Dfr SRd h h2 ∨ GTalk h h2 tn ta ts pg) := by
  have h9 := hl.2.2.2.2.2.2
  obtain ⟨⟨r, h4⟩, e1, c1, c2, cB, cle⟩ := read_C hl rp
  dsimp only at c1 c2
  obtain ⟨R, eR⟩ : ∃ R, R = rdF pg pn 0 P00 := ⟨_, rfl⟩
  rw [← eR] at c1 c2 cB cle
  have f4 := c2.1.1
  have l4 := f4.lay hl
  have p80 := rp.1
  have rm : RPm h4 pn pg := rp.m (fun k => ⟨f4.I (by unfold SRc; omega), f4.I (by unfold SRc; omega)⟩)
  have pk : PK R.2 := ⟨by have := cB.2.1; omega, fun s s1 s2 => ⟨(cB.2.2.2.2.2 s s1 s2).1, (cB.2.2.2.2.2 s s1 s2).2.1⟩⟩
  have D80 : R.2.1.1 ≤ 80 := cB.1
  have rc : RdC h4 R.2 := by
    obtain ⟨⟨_, q1, q2, q3, q4, q5⟩, q6⟩ := c2
    obtain ⟨y1, y2, y3, y4, y5, y6, y7, y8⟩ := q4 0 (by omega)
    exact ⟨q2, y3, y4, y5, q5⟩
  have v51 : hI h4 5 1 = nI pn := by rw [f4.I (by unfold SRc; omega)]; exact rp.2.1
  have v42 : hI h4 4 2 = nI tn := by rw [f4.I (by unfold SRc; omega)]; exact rt.2.1
  have t6 := rt.1
  have wc := whole_C l4 c2 D80
  obtain ⟨n, nE⟩ : ∃ n, n = R.2.1.2.1 := ⟨_, rfl⟩
  have n40 := pk.1
  -- refusals of both
  have ref : ∀ v : Int32, f_C_talk h 4 = some (v, h4) → (∀ g, MQr 80 h4 g R.2 → hI g 201 33 = nI R.1 → hI g 201 34 = bI (whl pn R) → f_M_readPage h4 201 = some g → f_M_talk h4 201 = some (v, g)) → ∃ r h1 h2, f_C_talk h 4 = some (r, h1) ∧ f_M_talk h1 201 = some (r, h2) ∧ (Dfr SRd h h2 ∨ GTalk h h2 tn ta ts pg) := by
    intro v q1 q2
    obtain ⟨h5, e5, d1, d2, d3⟩ := read_M l4 rm
    rw [← eR] at d1 d2 d3
    exact ⟨v, h4, h5, q1, q2 h5 d1 d2 d3 e5, Or.inl ((f4.mono (fun a k z => Or.inl z)).trans (d1.1.mono (fun a k z => Or.inr z)))⟩
  have sC : ∀ o, f_C_talk h 4 = o ↔ (if nI R.1 < nI pn then
    some ((-103 : Int32), h4)
  else
    if bI (decide (R.2.1.1 = 0) && (R.2.1.2.2.2 && decide (R.2.1.2.2.1 = -1))) = (0 : Int32) then
      some ((-103 : Int32), h4)
    else
      if (24 : Int32) < nI n then
        some ((-102 : Int32), h4)
      else
        (f_Pa_isTwofold h4 5).bind fun x16 =>
        if x16 = (0 : Int32) then
          if nI tn < (6 : Int32) then
            (f_Ta_init (nO 9 h4) (hM h4) (some 5)).bind fun h22 =>
            (wR 9 h22 91 (nI tn) (some (hM h4))).bind fun h24 =>
            (gI 0 h24 4 2).bind fun x25 =>
            (pI 0 h24 4 2 (x25 + (1 : Int32))).bind fun h26 =>
            (gR 0 h26 4 0).bind fun r27 =>
            (r27).bind fun a28 =>
            (pI 7 h26 a28 1 (0 : Int32)).bind fun h29 =>
            (gI 0 h29 4 2).bind fun x30 =>
            some ((x30 - (1 : Int32)), h29)
          else
            some ((-104 : Int32), h4)
        else
          some ((-102 : Int32), h4)) = o := by
    intro o
    have l0 : Lay (nO 9 h4) := l4.grow
    have e50 : gR 0 (nO 9 h4) 4 0 = some (some 5) := by rw [gR_n (c := 0) (kk4 l0)]; simp only [LR l0]
    rw [f_C_talk, gR_n (c := 0) (kk4 hl), ob_v]
    simp only [LR hl, ob_v, cv_n (c := 7) (kk5 hl), e1, bd2_v, gR_n (c := 0) (kk4 l4), LR l4, gI_n (c := 7) (kk5 l4), v51, c1, cv_n (c := 7) (kk5 l4), wc, gI_n (c := 0) (kk4 l4), v42, rc.1, ← nE, e50]
  have sM : ∀ g, MQr 80 h4 g R.2 → hI g 201 34 = bI (whl pn R) → f_M_readPage h4 201 = some g → ∀ o, f_M_talk h4 201 = o ↔ (if bI (whl pn R) = (0 : Int32) then
    some ((-103 : Int32), g)
  else
    if (24 : Int32) < nI n then
      some ((-102 : Int32), g)
    else
      (f_M_isTwofold g 201).bind fun x4 =>
      if x4 = (0 : Int32) then
        if nI tn = (6 : Int32) then
          some ((-104 : Int32), g)
        else
          (wI g 203 (nI tn) (nI n)).bind fun h10 =>
          f_M_talk_L60 201 (fun h43 =>
            (gI 12 h43 201 2).bind fun x44 =>
            (pI 12 h43 201 2 (x44 + (1 : Int32))).bind fun h45 =>
            (pI 12 h45 201 0 (0 : Int32)).bind fun h46 =>
            (gI 12 h46 201 2).bind fun x47 =>
            some ((x47 - (1 : Int32)), h46)
          ) FU (0 : Int32) h10
      else
        some ((-102 : Int32), g)) = o := by
    intro g C d3 e5 o
    have lg := C.1.lay l4
    have m2 : hI g 201 2 = nI tn := by rw [C.1.I (by unfold SRm; omega), f4.I (by unfold SRc; omega)]; exact rt.2.2.1
    rw [f_M_talk, cv_n (kk201 l4), e5, ob_v, gI_n (kk201 lg), ob_v]
    simp only [d3, gI_n (kk201 lg), C.2.2.1, ← nE, cv_n (kk201 lg), m2, ob_v, gR_n (kk201 lg), LR lg]
  have rdm : ∀ g, MQr 80 h4 g R.2 → RdM g R.2 := by
    intro g C
    obtain ⟨_, q1, q2, q4, q5, _⟩ := C
    obtain ⟨y1, y2, y3, y4, y5, y6, y7, y8⟩ := q4 0 (by omega)
    exact ⟨q2, y4, y5, y3, q5⟩
  obtain ⟨wh, ewh⟩ : ∃ wh, wh = (decide (R.2.1.1 = 0) && (R.2.1.2.2.2 && decide (R.2.1.2.2.1 = -1))) := ⟨_, rfl⟩
  rw [← ewh] at sC
  have whE : whl pn R = (decide (R.1 = pn) && wh) := by rw [ewh]; rfl
  by_cases b1 : R.1 < pn
  · refine ref (-103) ((sC _).mpr (if_pos (nI_lt b1 (by omega)))) (fun g C d2 d3 e5 => (sM g C d3 e5 _).mpr (if_pos ?_))
    rw [whE, decide_eq_false (by omega)]; rfl
  have b1' : R.1 = pn := by omega
  have nb1 : ¬ nI R.1 < nI pn := nI_nlt (by omega) (by omega)
  cases b2 : wh with
  | false =>
    rw [b2] at whE sC
    refine ref (-103) ((sC _).mpr (by rw [if_neg nb1]; rfl)) (fun g C d2 d3 e5 => (sM g C d3 e5 _).mpr (if_pos ?_))
    rw [whE]; cases decide (R.1 = pn) <;> rfl
  | true =>
    rw [b2] at whE sC
    have whT : whl pn R = true := by rw [whE, decide_eq_true b1']; rfl
    rw [whT] at sM
    have nb2 : ¬ bI true = (0 : Int32) := by decide
    by_cases b3 : 24 < n
    · have c24 : (24 : Int32) < nI n := nI_lt (a := 24) b3 (by omega)
      exact ref (-102) ((sC _).mpr (by rw [if_neg nb1, if_neg nb2, if_pos c24])) (fun g C d2 d3 e5 => (sM g C (by rw [d3, whT]) e5 _).mpr (by rw [if_neg nb2, if_pos c24]))
    have c24 : ¬ (24 : Int32) < nI n := nI_nlt (b := n) (a := 24) (by omega) (by omega)
    obtain ⟨tc1, tc2⟩ := two_C l4 rc pk
    by_cases b4 : Tw R.2
    · exact ref (-102) ((sC _).mpr (by rw [if_neg nb1, if_neg nb2, if_neg c24, tc1 b4, ob_v, if_neg (by decide)])) (fun g C d2 d3 e5 => (sM g C (by rw [d3, whT]) e5 _).mpr (by rw [if_neg nb2, if_neg c24, (two_M (C.1.lay l4) (rdm g C) pk).1 b4, ob_v, if_neg (by decide)]))
    by_cases b5 : tn = 6
    · have n6 : ¬ nI tn < 6 := by rw [b5]; decide
      have e6 : nI tn = 6 := by rw [b5]; rfl
      exact ref (-104) ((sC _).mpr (by rw [if_neg nb1, if_neg nb2, if_neg c24, tc2 b4, ob_v, if_pos rfl, if_neg n6])) (fun g C d2 d3 e5 => (sM g C (by rw [d3, whT]) e5 _).mpr (by rw [if_neg nb2, if_neg c24, (two_M (C.1.lay l4) (rdm g C) pk).2 b4, ob_v, if_pos rfl, if_pos e6]))
    have y6 : nI tn < 6 := nI_lt (b := 6) (by omega) (by decide)
    have z6 : ¬ nI tn = 6 := fun q => b5 (nI_inj (b := 6) (by omega) (by decide) q)
    have m4 : hM h4 = hM h := f4.1.1
    obtain ⟨M, eM⟩ : ∃ M, M = hM h4 := ⟨_, rfl⟩
    obtain ⟨g, eg, ⟨gm, gz, go⟩, TT, gv, gr, lg⟩ := Ta_ok l4 rc pk (show n ≤ 24 by omega) nE
    rw [← eM] at eg gm go TT gv gr
    obtain ⟨a1, ea1⟩ : ∃ a1, a1 = uR g 91 tn (some M) := ⟨_, rfl⟩
    obtain ⟨a2, ea2⟩ : ∃ a2, a2 = uI a1 4 2 (nI (tn + 1)) := ⟨_, rfl⟩
    obtain ⟨a3, ea3⟩ : ∃ a3, a3 = uI a2 5 1 0 := ⟨_, rfl⟩
    have l1 : Lay a1 := by rw [ea1]; exact lg.uR (fun q hq z => rTab_91 q hq z.1)
    have l2 : Lay a2 := by rw [ea2]; exact l1.uI (by decide)
    have l3 : Lay a3 := by rw [ea3]; exact l2.uI (by decide)
    have w1 : wR 9 g 91 (nI tn) (some M) = some a1 := by rw [ea1]; exact wR_n (c := 9) (kk91 lg) (by omega) (by decide) TT.1.1
    have v1 : hI a1 4 2 = nI tn := by rw [ea1]; show hI g 4 2 = _; rw [(go 4 (by omega)).2.1]; exact v42
    have w2 : pI 0 a1 4 2 (nI (tn + 1)) = some a2 := by rw [ea2]; exact pI_n (c := 0) (kk4 l1)
    have w3 : pI 7 a2 5 1 0 = some a3 := by rw [ea3]; exact pI_n (c := 7) (kk5 l2)
    have v3 : hI a3 4 2 = nI (tn + 1) := by rw [ea3, hI_ne (by decide), ea2, hI_eq]
    have eC : f_C_talk h 4 = some (nI tn, a3) := by
      refine (sC _).mpr ?_
      rw [if_neg nb1, if_neg nb2, if_neg c24, tc2 b4, ob_v, if_pos rfl, if_pos y6, ← eM, eg, ob_v, w1, ob_v, gI_n (c := 0) (kk4 l1), ob_v, v1, nI_1, w2, ob_v, gR_n (c := 0) (kk4 l2), ob_v]
      simp only [LR l2, ob_v]
      rw [w3, ob_v, gI_n (c := 0) (kk4 l3), ob_v, v3, nI_pred]
    -- what the class leaves
    have xM : hM a3 = M + 4 := by simp only [ea3, ea2, ea1, HS]; exact gm
    have xZ : hZ a3 = hZ h4 + (znf 9 + 18 * (n + 1)) := by simp only [ea3, ea2, ea1, HS]; exact gz
    have xK : ∀ a, hK a3 a = hK g a := fun a => by simp only [ea3, ea2, ea1, HS]
    have xJ : ∀ a k, hJ a3 a k = hJ g a k := fun a k => by simp only [ea3, ea2, ea1, HS]
    have xR : ∀ a k, hR a3 a k = if a = 91 ∧ k = tn then some M else hR g a k := fun a k => by simp only [ea3, ea2, ea1, HS]
    have xI : ∀ a k, ¬ (a = 4 ∧ k = 2) → ¬ (a = 5 ∧ k = 1) → hI a3 a k = hI g a k := fun a k q1 q2 => by
      rw [ea3, hI_ne q2, ea2, hI_ne q1, ea1]; rfl
    have rm3 : RPm a3 pn pg := ⟨rm.1, by rw [xI 201 0 (by decide) (by decide), (go 201 (by omega)).2.1]; exact rm.2.1, fun i hi => by
      obtain ⟨q1, q2, q3⟩ := rm.2.2 i hi
      exact ⟨q1, q2, by rw [xI 202 i (by omega) (by omega), (go 202 (by omega)).2.1]; exact q3⟩⟩
    obtain ⟨h5, e5, d1, d2, d3⟩ := read_M l3 rm3
    rw [← eR] at d1 d2 d3
    rw [whT] at d3
    have l5 := d1.1.lay l3
    have rdm5 : RdM h5 R.2 := by
      obtain ⟨_, q1, q2, q4, q5, _⟩ := d1
      obtain ⟨y1, y2, y3, y4, y5, y6, y7, y8⟩ := q4 0 (by omega)
      exact ⟨q2, y4, y5, y3, q5⟩
    have m2 : hI h5 201 2 = nI tn := by rw [d1.1.I (by unfold SRm; omega), xI 201 2 (by decide) (by decide), (go 201 (by omega)).2.1, f4.I (by unfold SRc; omega)]; exact rt.2.2.1
    obtain ⟨h6, e6⟩ : ∃ h6, h6 = uI h5 203 tn (nI n) := ⟨_, rfl⟩
    have f6 : Dfr (fun a k => a = 203 ∧ k = tn) h5 h6 := by rw [e6]; exact Dfr.uI (by decide) ⟨rfl, rfl⟩
    have l6 := f6.lay l5
    have w6 : wI h5 203 (nI tn) (nI n) = some h6 := by rw [e6]; exact wI_n (by decide) (kk203 l5) (by omega) (by decide)
    have rdm6 : RdM h6 R.2 := by
      obtain ⟨q1, q2, q3, q4, q5⟩ := rdm5
      exact ⟨by rw [f6.I (by omega)]; exact q1, by rw [f6.J (by omega)]; exact q2, by rw [f6.J (by omega)]; exact q3, by rw [f6.I (by omega)]; exact q4, fun s s1 s2 => by rw [f6.I (by omega), f6.J (by omega)]; exact q5 s s1 s2⟩
    have m6 : hI h6 201 2 = nI tn := by rw [f6.I (by omega)]; exact m2
    obtain ⟨⟨r2, h2⟩, e7, z7⟩ := talk_M (t := tn) l6 rdm6 pk (by omega) (show R.2.1.2.1 ≤ 24 by omega) m6 (Q := fun q : Int32 × AH => q.1 = nI tn ∧ ∃ g7, Dfr (SMt tn) h6 g7 ∧ (∀ s, s ≤ R.2.1.2.1 → Mrow R.2 tn g7 s) ∧ q.2 = uI (uI g7 201 2 (nI (tn + 1))) 201 0 0) (k := fun h43 =>
            (gI 12 h43 201 2).bind fun x44 =>
            (pI 12 h43 201 2 (x44 + (1 : Int32))).bind fun h45 =>
            (pI 12 h45 201 0 (0 : Int32)).bind fun h46 =>
            (gI 12 h46 201 2).bind fun x47 =>
            some ((x47 - (1 : Int32)), h46)) (fun g7 f7 r7 => by
      have l7 := f7.lay l6
      have m7 : hI g7 201 2 = nI tn := by rw [f7.I (by unfold SMt; omega)]; exact m6
      have k7 : Lay (uI g7 201 2 (nI (tn + 1))) := l7.uI (by decide)
      have k8 : Lay (uI (uI g7 201 2 (nI (tn + 1))) 201 0 0) := k7.uI (by decide)
      rw [gI_n (kk201 l7), ob_v, m7, nI_1, pI_n (kk201 l7), ob_v, pI_n (kk201 k7), ob_v, gI_n (kk201 k8), ob_v, hI_ne (by decide), hI_eq, nI_pred]
      exact OK.mk ⟨rfl, g7, f7, r7, rfl⟩) (R.2.1.2.1 + 1) 0 FU h6 (by omega) (by unfold FU; omega) Dfr.refl (fun s' hs' => by omega)
    obtain ⟨q7, g7, f7, r7, eh2⟩ := z7
    dsimp only at q7 eh2
    subst q7
    have eMt : f_M_talk a3 201 = some (nI tn, h2) := by
      rw [f_M_talk, cv_n (kk201 l3), e5, ob_v, gI_n (kk201 l5), ob_v, d3, if_neg nb2, gI_n (kk201 l5), ob_v, rdm5.1, ← nE, if_neg c24, cv_n (kk201 l5), (two_M l5 rdm5 pk).2 b4, ob_v, if_pos rfl]
      simp only [gI_n (kk201 l5), gR_n (kk201 l5), LR l5, ob_v, m2, if_neg z6, w6]
      exact e7
    -- all that changed
    have lh2 : Lay h2 := by rw [eh2]; exact ((f7.lay l6).uI (by decide)).uI (by decide)
    have yM : hM h2 = M + 4 := by rw [eh2]; show hM g7 = _; rw [f7.1.1, f6.1.1, d1.1.1.1, xM]
    have yZ : hZ h2 = hZ h4 + (znf 9 + 18 * (n + 1)) := by rw [eh2]; show hZ g7 = _; rw [f7.1.2, f6.1.2, d1.1.1.2, xZ]
    have yK : ∀ a, hK h2 a = hK g a := fun a => by rw [eh2]; show hK g7 a = _; rw [f7.K, f6.K, d1.1.K, xK]
    have yR : ∀ a k, hR h2 a k = if a = 91 ∧ k = tn then some M else hR g a k := fun a k => by rw [eh2]; show hR g7 a k = _; rw [f7.R, f6.R, d1.1.R, xR]
    have u2 : ∀ a k, ¬ (a = 201 ∧ (k = 2 ∨ k = 0)) → hI h2 a k = hI g7 a k := fun a k q => by rw [eh2, hI_ne (by omega), hI_ne (by omega)]
    have yI : ∀ a k, ¬ (a = 201 ∧ (k = 2 ∨ k = 0)) → ¬ SMt tn a k → ¬ (a = 203 ∧ k = tn) → ¬ SRm a k → ¬ (a = 4 ∧ k = 2) → ¬ (a = 5 ∧ k = 1) → hI h2 a k = hI g a k := fun a k q1 q2 q3 q4 q5 q6 => by
      rw [u2 a k q1, f7.I q2, f6.I q3, d1.1.I q4, xI a k q5 q6]
    have yJ : ∀ a k, ¬ SRm a k → ¬ SMt tn a k → ¬ (a = 203 ∧ k = tn) → hJ h2 a k = hJ g a k := fun a k q1 q2 q3 => by
      rw [eh2]; show hJ g7 a k = _; rw [f7.J q2, f6.J q3, d1.1.J q1, xJ]
    have yN : ∀ a k, M ≤ a → hI h2 a k = hI g a k := fun a k q => yI a k (by omega) (by unfold SMt; omega) (by omega) (by unfold SRm; omega) (by omega) (by omega)
    have nt : ∀ s, s ≤ n → ∀ k, k < 16 → nx h2 tn s k = tnx R.2 s k n := fun s hs k hk => by
      show hI h2 204 _ = _
      rw [u2 _ _ (by omega), (r7 s (by omega)).1 k hk, nE]
    have et : ∀ s, s ≤ n → en h2 tn s = bI (tend R.2 s) := fun s hs => by
      show hI h2 205 _ = _
      rw [u2 _ _ (by omega), (r7 s (by omega)).2]
    have ag : Ag (fun a k => ¬ STk tn a k) h h2 := by
      refine ⟨by omega, fun a ha => by rw [yK, (go a (by omega)).1, f4.K], fun a k ha hs => ?_⟩
      have hs' : ¬ (SRd a k ∨ (a = 4 ∧ k = 2) ∨ (a = 5 ∧ k = 1) ∨ (a = 91 ∧ k = tn) ∨ (a = 201 ∧ (k = 2 ∨ k = 0)) ∨ (a = 203 ∧ k = tn) ∨ (a = 204 ∧ 400 * tn ≤ k) ∨ (a = 205 ∧ 25 * tn ≤ k)) := hs
      have nc : ¬ SRc a k := fun z => hs' (Or.inl (Or.inl z))
      have nm : ¬ SRm a k := fun z => hs' (Or.inl (Or.inr z))
      refine ⟨?_, ?_, ?_⟩
      · rw [yI a k (by omega) (by unfold SMt; omega) (by omega) nm (by omega) (by omega), (go a (by omega)).2.1 k, f4.I nc]
      · rw [yJ a k nm (by unfold SMt; omega) (by omega), (go a (by omega)).2.2.1 k, f4.J nc]
      · rw [yR, if_neg (by omega), (go a (by omega)).2.2.2 k, f4.R]
    refine ⟨nI tn, a3, h2, eC, eMt, Or.inr ⟨by omega, ⟨n, by omega, by omega, ?_, ?_, fun t ht => ?_⟩, by omega, ?_, lh2, ⟨by omega, ?_, ?_, fun i hi => by omega⟩, ag⟩⟩
    · rw [u2 4 2 (by omega), f7.I (by unfold SMt; omega), f6.I (by omega), d1.1.I (by unfold SRm; omega)]; exact v3
    · rw [eh2, hI_ne (by decide), hI_eq]
    · show hR h2 91 t = some (if t = tn then hM h else ta t) ∧ TK h2 t (if t = tn then hM h else ta t) (if t = tn then n else ts t)
      by_cases et' : t = tn
      · subst et'
        rw [if_pos rfl, if_pos rfl, ← m4, ← eM]
        obtain ⟨⟨k1, k2, k3, k4⟩, ⟨s1, s2, s3⟩, s4⟩ := TT
        refine ⟨by rw [yR, if_pos ⟨rfl, rfl⟩], by omega, by omega, by omega, ⟨by rw [yK]; exact k1, by rw [yK]; exact k2, by rw [yK]; exact k3, by rw [yK]; exact k4⟩, ⟨by rw [yR, if_neg (by omega)]; exact s1, by rw [yR, if_neg (by omega)]; exact s2, by rw [yR, if_neg (by omega)]; exact s3⟩, by rw [yN _ _ (by omega)]; exact s4, ?_, fun s hs k hk => ⟨?_, ?_⟩, fun s hs => ?_, ?_, fun s hs => ⟨?_, ?_⟩⟩
        · rw [u2 203 t (by omega), f7.I (by unfold SMt; omega), e6, hI_eq]
        · rw [yN _ _ (by omega), nt s hs k hk]; exact (gr s hs).1 k hk
        · rw [nt s hs k hk]
          rcases tnx_r R.2 s k n with q | ⟨j, j1, j2, j3⟩
          · exact Or.inl q
          · exact Or.inr ⟨j, j1, j2, j3⟩
        · rw [show en h2 t s = bI (tend R.2 s) from et s hs]; exact bI01 _
        · rw [yN _ _ (by omega), gv]
          congr 1
          exact msk_ext (fun i hi => by rw [show en h2 t i = bI (tend R.2 i) from et i (by omega)]; cases tend R.2 i <;> rfl)
        · rw [yN _ _ (by omega), (gr s hs).2.1]
          congr 1
          exact msk_ext (fun i hi => by rw [nt s hs i (by omega)])
        · rw [yN _ _ (by omega), (gr s hs).2.2]
          congr 1
          exact msk_ext (fun i hi => by rw [nt s hs (8 + i) (by omega)])
      · rw [if_neg et', if_neg et']
        have ht' : t < tn := by omega
        obtain ⟨o1, o2⟩ := rt.2.2.2 t ht'
        have p1 := o2.2.1
        have p2 := o2.2.2.1
        refine ⟨by rw [yR, if_neg (by omega), (go 91 (by omega)).2.2.2, f4.R]; exact o1, o2.keep (by omega) (fun b q1 q2 => ⟨by rw [yK, (go b (by omega)).1, f4.K], fun k => ?_, fun k => by rw [yR, if_neg (by omega), (go b (by omega)).2.2.2, f4.R]⟩) ?_ (fun j j1 j2 => ?_) (fun j j1 j2 => ?_)⟩
        · rw [yI b k (by omega) (by unfold SMt; omega) (by omega) (by unfold SRm; omega) (by omega) (by omega), (go b (by omega)).2.1, f4.I (by unfold SRc; omega)]
        · rw [yI 203 t (by omega) (by unfold SMt; omega) (by omega) (by unfold SRm; omega) (by omega) (by omega), (go 203 (by omega)).2.1, f4.I (by unfold SRc; omega)]
        · rw [yI 204 j (by omega) (by unfold SMt; omega) (by omega) (by unfold SRm; omega) (by omega) (by omega), (go 204 (by omega)).2.1, f4.I (by unfold SRc; omega)]
        · rw [yI 205 j (by omega) (by unfold SMt; omega) (by omega) (by unfold SRm; omega) (by omega) (by omega), (go 205 (by omega)).2.1, f4.I (by unfold SRc; omega)]
    · have z9 : znf 9 = 5 := rfl
      have := f4.1.2
      omega
    · rw [u2 5 1 (by omega), f7.I (by unfold SMt; omega), f6.I (by omega), d1.1.I (by unfold SRm; omega), ea3, hI_eq]; rfl
    · rw [eh2, hI_eq]; rfl
end OT
