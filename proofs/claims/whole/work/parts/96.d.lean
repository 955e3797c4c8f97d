/-! the class reads letter by letter -/
section RC3
variable {h g : AH} {P : PSt}
theorem isMsg_v (h : AH) {c : Nat} (hc : c ≤ 126) : f_C_isMessage h (nI c - 97) = some (if 97 ≤ c ∧ c ≤ 104 then 1 else 0) := by
  have fin : ∀ c, c < 127 → ((if nI c - 97 < (0 : Int32) then (0 : Int32) else if nI c - 97 < (8 : Int32) then (1 : Int32) else (0 : Int32)) = (if 97 ≤ c ∧ c ≤ 104 then 1 else 0)) := by decide +kernel
  unfold f_C_isMessage
  rw [← fin c (by omega)]
  split
  · rfl
  · split <;> rfl
theorem msg_C (hl : Lay h) (C : CP h g P) {k c : Nat} (B : PB P k) (hk : k < 80) (sg : ¬ P.1.2.2.1 = -1) (hc : c ≤ 126) : OK (f_Pa_acceptsMessage g 5 (nI c - 97)) (fun q => if 97 ≤ c ∧ c ≤ 104 then q.1 = 1 ∧ CP h q.2 (msgP P (tN P.1.2.2.1) (c - 97)) else q = (0, g)) := by
  obtain ⟨⟨C1, C2, C3, C4, C5, C6⟩, C7⟩ := C
  obtain ⟨b1, b2, b3, b4, b5, b6⟩ := B
  rw [if_neg sg] at b2
  have lg := C1.lay hl
  unfold f_Pa_acceptsMessage
  rw [isMsg_v g hc, ob_v]
  by_cases q : 97 ≤ c ∧ c ≤ 104
  · rw [if_pos q, if_neg (show ¬ (1 : Int32) = 0 by decide)]
    have n40 : P.1.2.1 < 40 := by omega
    have q40 : nI P.1.2.1 < 40 := nI_lt (b := 40) n40 (by decide)
    obtain ⟨sv, sv2, esv⟩ : ∃ sv, sv < 2 ∧ P.1.2.2.1 = nI sv := by
      rcases b3 with r | r | r
      · exact absurd r sg
      · exact ⟨0, by decide, r⟩
      · exact ⟨1, by decide, r⟩
    have tsv : tN P.1.2.2.1 = sv := by rw [esv]; exact cl_nI (by omega)
    have mv : nI c - 97 = nI (c - 97) := by rw [show (97 : Int32) = nI 97 from rfl, pk_sub q.1]
    have kv : (nI sv * (8 : Int32)) + nI (c - 97) = nI (8 * sv + (c - 97)) := by rw [show (8 : Int32) = nI 8 from rfl, pk_mul, nI_add, Nat.mul_comm]
    obtain ⟨g1, e1⟩ : ∃ g1, g1 = uI g 5 4 (nI (P.1.2.1 + 1)) := ⟨_, rfl⟩
    have p1 : pI 7 g 5 4 (nI (P.1.2.1 + 1)) = some g1 := by rw [e1]; exact pI_n (c := 7) (kk5 lg)
    have f1 : Dfr SRc g g1 := by rw [e1]; exact Dfr.uI (by decide) (by unfold SRc; omega)
    have l1 := f1.lay lg
    obtain ⟨g2, e2⟩ : ∃ g2, g2 = uI g1 8 (P.1.2.1 + 1) (nI (8 * sv + (c - 97))) := ⟨_, rfl⟩
    have p2 : wI g1 8 (nI (P.1.2.1 + 1)) (nI (8 * sv + (c - 97))) = some g2 := by rw [e2]; exact wI_n (by decide) (kk8 l1) (show P.1.2.1 + 1 < 41 by omega) (by decide)
    have f2 : Dfr SRc g1 g2 := by rw [e2]; exact Dfr.uI (by decide) (by unfold SRc; omega)
    have l2 := f2.lay l1
    obtain ⟨g3, e3⟩ : ∃ g3, g3 = uJ g2 9 (P.1.2.1 + 1) 0 := ⟨_, rfl⟩
    have p3 : wJ g2 9 (nI (P.1.2.1 + 1)) 0 = some g3 := by rw [e3]; exact wJ_n (by decide) (kk9 l2) (show P.1.2.1 + 1 < 41 by omega) (by decide)
    have f3 : Dfr SRc g2 g3 := by rw [e3]; exact Dfr.uJ (by decide) (by unfold SRc; omega)
    have l3 := f3.lay l2
    obtain ⟨g4, e4⟩ : ∃ g4, g4 = uI g3 5 7 (-1) := ⟨_, rfl⟩
    have p4 : pI 7 g3 5 7 (-1) = some g4 := by rw [e4]; exact pI_n (c := 7) (kk5 l3)
    have f4 : Dfr SRc g3 g4 := by rw [e4]; exact Dfr.uI (by decide) (by unfold SRc; omega)
    have l4 := f4.lay l3
    have J1 : ∀ a k, hJ g1 a k = hJ g a k := fun a k => by rw [e1]; rfl
    have J2 : ∀ a k, hJ g2 a k = hJ g1 a k := fun a k => by rw [e2]; rfl
    have J4 : ∀ a k, hJ g4 a k = hJ g3 a k := fun a k => by rw [e4]; rfl
    have I3 : ∀ a k, hI g3 a k = hI g2 a k := fun a k => by rw [e3]; rfl
    have i1 : hI g1 5 4 = nI (P.1.2.1 + 1) := by rw [e1, hI_eq]
    have i17 : hI g1 5 7 = nI sv := by rw [e1, hI_ne (by omega), C4]; exact esv
    have i2 : hI g2 5 4 = nI (P.1.2.1 + 1) := by rw [e2, hI_ne (by omega)]; exact i1
    have i4 : hI g4 5 4 = nI (P.1.2.1 + 1) := by rw [e4, hI_ne (by omega), I3]; exact i2
    have Q4 : CQ h g4 ((P.1.1, P.1.2.1 + 1, -1, P.1.2.2.2), P.2.1, (fun s => if s = P.1.2.1 + 1 then (tN P.1.2.2.1, c - 97) else P.2.2.1 s), (fun s => if s = P.1.2.1 + 1 then 0 else P.2.2.2 s)) := by
      refine ⟨(((C1.trans f1).trans f2).trans f3).trans f4, ?_, i4, ?_, fun i hi => ?_, fun s r1 r2 => ⟨?_, ?_⟩⟩
      · show hI g4 5 3 = nI P.1.1
        rw [e4, hI_ne (by omega), I3, e2, hI_ne (by omega), e1, hI_ne (by omega)]; exact C2
      · show hI g4 5 7 = -1
        rw [e4, hI_eq]
      · have hi' : i ≤ P.1.1 := hi
        refine (C5 i hi').fr (fun k => ⟨?_, ?_⟩)
        · rw [e4, hI_ne (by omega), I3, e2, hI_ne (by omega), e1, hI_ne (by omega)]
        · rw [J4, e3, hJ_u, if_neg (by omega), J2, J1]
      · show hI g4 8 s = nI (8 * (if s = P.1.2.1 + 1 then (tN P.1.2.2.1, c - 97) else P.2.2.1 s).1 + (if s = P.1.2.1 + 1 then (tN P.1.2.2.1, c - 97) else P.2.2.1 s).2)
        have r2' : s ≤ P.1.2.1 + 1 := r2
        rw [e4, hI_ne (by omega), I3, e2]
        by_cases z : s = P.1.2.1 + 1
        · rw [z, hI_eq, if_pos rfl, tsv]
        · rw [hI_ne (by omega), e1, hI_ne (by omega), if_neg z]; exact (C6 s r1 (by omega)).1
      · show hJ g4 9 s = lN (2 * (if s = P.1.2.1 + 1 then 0 else P.2.2.2 s))
        have r2' : s ≤ P.1.2.1 + 1 := r2
        rw [J4, e3, hJ_u]
        by_cases z : s = P.1.2.1 + 1
        · rw [if_pos ⟨rfl, z⟩, if_pos z]; rfl
        · rw [if_neg (fun w => z w.2), if_neg z, J2, J1]; exact (C6 s r1 (by omega)).2
    have sh : xlshl (1 : Int64) (nI (P.1.2.1 + 1)) = lN (2 * 2 ^ P.1.2.1) := by rw [shl_1 (by omega), Nat.pow_succ, Nat.mul_comm]
    obtain ⟨g5, e5, c5⟩ := append_C hl Q4 (by show P.1.1 ≤ 80; omega) (by show P.1.2.1 + 1 ≤ 40; omega) (2 ^ P.1.2.1) (2 ^ P.1.2.1) false
    have e5' : f_Pa_append g4 5 (lN (2 * 2 ^ P.1.2.1)) (lN (2 * 2 ^ P.1.2.1)) (0 : Int32) = some g5 := e5
    simp only [gI_n (c := 7) (kk5 lg), C3, ob_v, q40, if_true, nI_1, p1, gR_n (c := 7) (kk5 l1), gI_n (c := 7) (kk5 l1), LR l1, i1, i17, mv, kv, p2, gR_n (c := 7) (kk5 l2), gI_n (c := 7) (kk5 l2), LR l2, i2, p3, p4, gI_n (c := 7) (kk5 l4), i4, sh, cv_n (c := 7) (kk5 l4), e5']
    refine OK.mk ?_
    rw [if_pos q]
    exact ⟨rfl, c5⟩
  · rw [if_neg q, if_pos rfl]
    refine OK.mk ?_
    rw [if_neg q]
theorem acc_C (hl : Lay h) (C : CP h g P) {k c : Nat} (B : PB P k) (hk : k < 80) (hc : c ≤ 126) : OK (f_Pa_accepts g 5 (nI c)) (fun q => (∃ P', acc1 P c = some P' ∧ q.1 = 1 ∧ CP h q.2 P') ∨ (acc1 P c = none ∧ q = (0, g))) := by
  obtain ⟨⟨C1, C2, C3, C4, C5, C6⟩, C7⟩ := id C
  obtain ⟨b1, b2, b3, b4, b5, b6⟩ := id B
  have lg := C1.lay hl
  have hb := (b4 _ (Nat.le_refl P.1.1)).1
  have n40 : P.1.2.1 ≤ 40 := by omega
  have v01 : ∀ (r : Int32) (x : AH), (r = 0 ∨ r = 1) → ((if r = 0 ∨ r = 1 then some (r, x) else none) : Option (Int32 × AH)) = some (r, x) := fun r x z => if_pos z
  have sgn : ∀ s : Int32, ∃ g', pI 7 g 5 7 s = some g' ∧ CP h g' (sgnP P s) := by
    intro s
    obtain ⟨g1, e1⟩ : ∃ g1, g1 = uI g 5 7 s := ⟨_, rfl⟩
    have f1 : Dfr SRc g g1 := by rw [e1]; exact Dfr.uI (by decide) (by unfold SRc; omega)
    refine ⟨g1, by rw [e1]; exact pI_n (c := 7) (kk5 lg), ⟨C1.trans f1, by rw [e1, hI_ne (by omega)]; exact C2, by rw [e1, hI_ne (by omega)]; exact C3, by rw [e1, hI_eq]; rfl, fun i hi => (C5 i hi).fr (fun k => ⟨by rw [e1, hI_ne (by omega)], by rw [e1]; rfl⟩), fun s r1 r2 => ⟨by rw [e1, hI_ne (by omega)]; exact (C6 s r1 r2).1, by rw [e1]; exact (C6 s r1 r2).2⟩⟩, by rw [e1, hI_ne (by omega)]; exact C7⟩
  unfold f_Pa_accepts
  rw [gI_n (c := 7) (kk5 lg), C4, ob_v]
  have ne : ∀ d : Nat, d < 2 ^ 31 → ¬ c = d → ¬ nI c = nI d := fun d hd z w => z (nI_inj (by omega) hd w)
  unfold acc1
  by_cases q : P.1.2.2.1 = -1
  · rw [if_pos q, if_pos q]
    by_cases z33 : c = 33
    · rw [if_pos (show nI c = 33 by rw [z33]; rfl), if_pos z33]
      obtain ⟨g', e, c'⟩ := sgn 1
      rw [e, ob_v]
      exact OK.mk (Or.inl ⟨_, rfl, rfl, c'⟩)
    rw [if_neg (show ¬ nI c = 33 from ne 33 (by decide) z33), if_neg z33]
    by_cases z40 : c = 40
    · rw [if_pos (show nI c = 40 by rw [z40]; rfl), if_neg (show ¬ c = 63 by omega), if_neg (show ¬ c = 48 by omega), if_pos z40, cv_n (c := 7) (kk5 lg)]
      obtain ⟨⟨r, g'⟩, e, c1, c2⟩ := opens_C (br := 1) hl C (by omega)
      dsimp only at c1 c2
      subst c1
      rw [show nI c = nI (ltr 1) by rw [z40]; rfl, e, bd2_v, v01 _ _ (Or.inr rfl)]
      exact OK.mk (Or.inl ⟨_, rfl, rfl, c2⟩)
    rw [if_neg (show ¬ nI c = 40 from ne 40 (by decide) z40)]
    by_cases z41 : c = 41
    · rw [if_pos (show nI c = 41 by rw [z41]; rfl), if_neg (show ¬ c = 63 by omega), if_neg (show ¬ c = 48 by omega), if_neg z40, if_neg (show ¬ c = 123 by omega), if_neg (show ¬ c = 124 by omega), if_pos z41, cv_n (c := 7) (kk5 lg)]
      obtain ⟨⟨r, g'⟩, e, c1⟩ := closes_C hl C (by omega) n40 hb b5 (c := c) (Or.inl z41)
      rw [if_pos z41] at c1
      rw [e, bd2_v]
      by_cases w : P.1.2.2.2 = true ∧ (top P).1.1 = 1 ∧ (top P).1.2.1 = true
      · rw [if_pos w] at c1 ⊢
        dsimp only at c1
        rw [c1.1, v01 _ _ (Or.inr rfl)]
        exact OK.mk (Or.inl ⟨_, rfl, rfl, c1.2⟩)
      · rw [if_neg w] at c1 ⊢
        cases c1
        rw [v01 _ _ (Or.inl rfl)]
        exact OK.mk (Or.inr ⟨rfl, rfl⟩)
    rw [if_neg (show ¬ nI c = 41 from ne 41 (by decide) z41)]
    by_cases z48 : c = 48
    · rw [if_pos (show nI c = 48 by rw [z48]; rfl), if_neg (show ¬ c = 63 by omega), if_pos z48, cv_n (c := 7) (kk5 lg)]
      obtain ⟨g', e, c'⟩ := append_C hl C.1 (by omega) n40 0 0 true
      have e' : f_Pa_append g 5 (0 : Int64) (0 : Int64) (1 : Int32) = some g' := e
      rw [e', ob_v]
      exact OK.mk (Or.inl ⟨_, rfl, rfl, c'⟩)
    rw [if_neg (show ¬ nI c = 48 from ne 48 (by decide) z48)]
    by_cases z63 : c = 63
    · rw [if_pos (show nI c = 63 by rw [z63]; rfl), if_pos z63]
      obtain ⟨g', e, c'⟩ := sgn 0
      rw [e, ob_v]
      exact OK.mk (Or.inl ⟨_, rfl, rfl, c'⟩)
    rw [if_neg (show ¬ nI c = 63 from ne 63 (by decide) z63), if_neg z63, if_neg z48, if_neg z40]
    by_cases z123 : c = 123
    · rw [if_pos (show nI c = 123 by rw [z123]; rfl), if_pos z123, cv_n (c := 7) (kk5 lg)]
      obtain ⟨⟨r, g'⟩, e, c1, c2⟩ := opens_C (br := 2) hl C (by omega)
      dsimp only at c1 c2
      subst c1
      rw [show nI c = nI (ltr 2) by rw [z123]; rfl, e, bd2_v, v01 _ _ (Or.inr rfl)]
      exact OK.mk (Or.inl ⟨_, rfl, rfl, c2⟩)
    rw [if_neg (show ¬ nI c = 123 from ne 123 (by decide) z123), if_neg z123]
    by_cases z124 : c = 124
    · rw [if_pos (show nI c = 124 by rw [z124]; rfl), if_pos z124, cv_n (c := 7) (kk5 lg)]
      obtain ⟨⟨r, g'⟩, e, c1⟩ := bars_C hl C (by omega) hb
      rw [e, bd2_v]
      by_cases w : P.1.2.2.2 = true ∧ (top P).1.1 = 1
      · rw [if_pos w] at c1 ⊢
        dsimp only at c1
        rw [c1.1, v01 _ _ (Or.inr rfl)]
        exact OK.mk (Or.inl ⟨_, rfl, rfl, c1.2⟩)
      · rw [if_neg w] at c1 ⊢
        cases c1
        rw [v01 _ _ (Or.inl rfl)]
        exact OK.mk (Or.inr ⟨rfl, rfl⟩)
    rw [if_neg (show ¬ nI c = 124 from ne 124 (by decide) z124), if_neg z124, if_neg z41]
    by_cases z125 : c = 125
    · rw [if_pos (show nI c = 125 by rw [z125]; rfl), if_pos z125, cv_n (c := 7) (kk5 lg)]
      obtain ⟨⟨r, g'⟩, e, c1⟩ := closes_C hl C (by omega) n40 hb b5 (c := c) (Or.inr z125)
      rw [if_neg z41] at c1
      rw [e, bd2_v]
      by_cases w : P.1.2.2.2 = true ∧ (top P).1.1 = 2
      · rw [if_pos w] at c1 ⊢
        dsimp only at c1
        rw [c1.1, v01 _ _ (Or.inr rfl)]
        exact OK.mk (Or.inl ⟨_, rfl, rfl, c1.2⟩)
      · rw [if_neg w] at c1 ⊢
        cases c1
        rw [v01 _ _ (Or.inl rfl)]
        exact OK.mk (Or.inr ⟨rfl, rfl⟩)
    rw [if_neg (show ¬ nI c = 125 from ne 125 (by decide) z125), if_neg z125]
    exact OK.mk (Or.inr ⟨rfl, rfl⟩)
  · rw [if_neg q, if_neg q, cv_n (c := 7) (kk5 lg)]
    obtain ⟨⟨r, g'⟩, e, c1⟩ := msg_C hl C B hk q hc
    rw [e, bd2_v]
    by_cases w : 97 ≤ c ∧ c ≤ 104
    · rw [if_pos w] at c1 ⊢
      dsimp only at c1
      rw [c1.1, v01 _ _ (Or.inr rfl)]
      exact OK.mk (Or.inl ⟨_, rfl, rfl, c1.2⟩)
    · rw [if_neg w] at c1 ⊢
      cases c1
      rw [v01 _ _ (Or.inl rfl)]
      exact OK.mk (Or.inr ⟨rfl, rfl⟩)
theorem P00_B : PB P00 0 := by
  refine ⟨Nat.le_refl _, by show 2 * 0 + (if (-1 : Int32) = -1 then 0 else 1) ≤ 0; decide, Or.inl rfl, fun i _ => ⟨by show (0 : Nat) ≤ 2; omega, by show (0 : Nat) < 2 ^ 0; decide, by show (0 : Nat) < 2 ^ 0; decide, by show (0 : Nat) < 2 ^ 0; decide, by show (0 : Nat) < 2 ^ 0; decide⟩, rfl, fun s r1 r2 => absurd r2 (by show ¬ s ≤ 0; omega)⟩
theorem read_C {pn : Nat} {pg : Nat → Nat} (hl : Lay h) (rp : RPage h pn pg) : OK (f_Pa_read h 5) (fun q => q.1 = nI (rdF pg pn 0 P00).1 ∧ CP h q.2 (rdF pg pn 0 P00).2 ∧ PB (rdF pg pn 0 P00).2 80 ∧ (rdF pg pn 0 P00).1 ≤ pn) := by
  have h80 := rp.1
  obtain ⟨g1, e1⟩ : ∃ g1, g1 = uI h 5 3 0 := ⟨_, rfl⟩
  have f1 : Dfr SRc h g1 := by rw [e1]; exact Dfr.uI (by decide) (by unfold SRc; omega)
  have l1 := f1.lay hl
  have p1 : pI 7 h 5 3 0 = some g1 := by rw [e1]; exact pI_n (c := 7) (kk5 hl)
  obtain ⟨g2, e2⟩ : ∃ g2, g2 = uI g1 5 4 0 := ⟨_, rfl⟩
  have f2 : Dfr SRc g1 g2 := by rw [e2]; exact Dfr.uI (by decide) (by unfold SRc; omega)
  have l2 := f2.lay l1
  have p2 : pI 7 g1 5 4 0 = some g2 := by rw [e2]; exact pI_n (c := 7) (kk5 l1)
  obtain ⟨g3, e3⟩ : ∃ g3, g3 = uI g2 5 7 (-1) := ⟨_, rfl⟩
  have f3 : Dfr SRc g2 g3 := by rw [e3]; exact Dfr.uI (by decide) (by unfold SRc; omega)
  have l3 := f3.lay l2
  have p3 : pI 7 g2 5 7 (-1) = some g3 := by rw [e3]; exact pI_n (c := 7) (kk5 l2)
  obtain ⟨k1, k2⟩ := lvl l3 (show 0 ≤ 80 by decide)
  obtain ⟨g4, e4, f4, L4, b4⟩ := open_L (br := 0) (by decide) k1
  have e4' : f_Le_open g3 (10 + 0) (0 : Int32) = some g4 := e4
  have C4 : CP h g4 P00 := by
    refine ⟨⟨((f1.trans f2).trans f3).trans (f4.mono (fun a k z => by unfold SRc; omega)), ?_, ?_, ?_, fun i hi => ?_, fun s r1 r2 => absurd r2 (by show ¬ s ≤ 0; omega)⟩, ?_⟩
    · rw [f4.I (by omega), e3, hI_ne (by omega), e2, hI_ne (by omega), e1, hI_eq]; rfl
    · rw [f4.I (by omega), e3, hI_ne (by omega), e2, hI_eq]; rfl
    · rw [f4.I (by omega), e3, hI_eq]; rfl
    · have : i = 0 := by have : i ≤ 0 := hi; omega
      subst this
      exact L4
    · show hI g4 (10 + 0) 2 = bI false
      rw [b4]; rfl
  have k2' : rR 5 g3 7 (0 : Int32) = some (some (10 + 0)) := k2
  simp only [f_Pa_read, p1, p2, p3, ob_v, gR_n (c := 7) (kk5 l3), LR l3, k2', cv_n (c := 5) k1, e4']
  obtain ⟨R, eR⟩ : ∃ R, R = rdF pg pn 0 P00 := ⟨_, rfl⟩
  rw [← eR]
  have main : ∀ d i N (g : AH) (P : PSt), i + d = pn → d < N → CP h g P → PB P i → rdF pg d i P = R → OK (f_Pa_read_L27 5 N (nI i) g) (fun q => q.1 = nI R.1 ∧ CP h q.2 R.2 ∧ PB R.2 80 ∧ R.1 ≤ pn) := by
    intro d
    induction d with
    | zero =>
      intro i N g P h1 h2 C B e
      obtain ⟨N, rfl⟩ : ∃ q, N = q + 1 := ⟨N - 1, by omega⟩
      have lg := C.1.1.lay hl
      have v1 : hI g 5 1 = nI pn := by rw [C.1.1.I (by unfold SRc; omega)]; exact rp.2.1
      rw [rdF] at e
      subst e
      simp only [f_Pa_read_L27, gI_n (c := 7) (kk5 lg), v1, ob_v, nI_nlt (show pn ≤ i by omega) (by omega), if_false]
      exact OK.mk ⟨by rw [show i = pn by omega], C, B.up (by omega), by show i ≤ pn; omega⟩
    | succ d ih =>
      intro i N g P h1 h2 C B e
      obtain ⟨N, rfl⟩ : ∃ q, N = q + 1 := ⟨N - 1, by omega⟩
      have lg := C.1.1.lay hl
      have v1 : hI g 5 1 = nI pn := by rw [C.1.1.I (by unfold SRc; omega)]; exact rp.2.1
      have hi : i < pn := by omega
      obtain ⟨g1, g2, g3, _⟩ := rp.2.2.2 i hi
      have v6 : hI g 6 i = nI (pg i) := by rw [C.1.1.I (by unfold SRc; omega)]; exact g3
      obtain ⟨⟨r, g'⟩, ea, ca⟩ := acc_C hl C B (by omega) g2
      dsimp only at ca
      simp only [f_Pa_read_L27, gI_n (c := 7) (kk5 lg), v1, ob_v, nI_lt hi (by omega), if_true, gR_n (c := 7) (kk5 lg), LR lg, rI_n (kk6 lg) (show i < 80 by omega) (by decide), v6, cv_n (c := 7) (kk5 lg), ea, bd2_v]
      rw [rdF] at e
      rcases ca with ⟨P', c1, c2, c3⟩ | ⟨c1, c2⟩
      · rw [c1] at e
        rw [c2, if_neg (show ¬ (1 : Int32) = 0 by decide), nI_1]
        exact ih (i + 1) N g' P' (by omega) (by omega) c3 (acc1_B B c1) e
      · rw [c1] at e
        cases c2
        rw [if_pos rfl]
        dsimp only at e
        subst e
        exact OK.mk ⟨rfl, C, B.up (by omega), by show i ≤ pn; omega⟩
  exact main pn 0 FU g4 P00 (by omega) (by unfold FU; omega) C4 P00_B eR.symm
end RC3
