section RO
variable {h : AH} {hn rn : Nat} {ha : Nat → Nat}
theorem stop_eq {P : Nat → Bool} {n : Nat} {x y : Int32} (hn : n < 2 ^ 31) (hx : (x = -1 ∧ ∀ j, j < n → P j = false) ∨ ∃ i, i < n ∧ x = nI i ∧ P i = true ∧ ∀ j, j < i → P j = false) (hy : (y = -1 ∧ ∀ j, j < n → P j = false) ∨ ∃ i, i < n ∧ y = nI i ∧ P i = true ∧ ∀ j, j < i → P j = false) : x = y := by
  rcases hx with ⟨a1, a2⟩ | ⟨i, i1, i2, i3, i4⟩ <;> rcases hy with ⟨b1, b2⟩ | ⟨j, j1, j2, j3, j4⟩
  · rw [a1, b1]
  · rw [a2 j j1] at j3; cases j3
  · rw [b2 i i1] at i3; cases i3
  · have : i = j := by
      rcases Nat.lt_trichotomy i j with q | q | q
      · rw [j4 i q] at i3; cases i3
      · exact q
      · rw [i4 j q] at j3; cases j3
    rw [i2, j2, this]
/-- both walks of the row, one behind the other -/
theorem both_walk (hl : Lay h) (rh : RHelp h hn ha) (rl : RLev h) (rr : RRow h hn rn) (F : Int32) : ∃ x g1 g2, f_Ro_firstStop h 107 F = some (x, g1) ∧ Dfr ScG h g1 ∧ f_M_walkRow g1 201 (some 211) (nI rn) F = some (x, g2) ∧ Dfr ScM g1 g2 ∧ (∀ i, x = nI i → i < 2 ^ 31 → i < rn) ∧ (x = -1 ∨ ∃ i, i < rn ∧ x = nI i) ∧ (x = -1 → (∀ i, i ≤ rn → GRel (117 + 3 * i) g1 (run h (rowN h) F i) (fun x => cnt (rowN h) x i)) ∧ MRel g2 (run h (rowN h) F rn)) := by
  have h5 := rr.1
  have h8 := rh.1
  obtain ⟨⟨x, g1⟩, e1, f1, c1⟩ := stop_C hl rh rl rr F
  obtain ⟨⟨y, g2⟩, e2, f2, c2⟩ := walk_M hl f1 (kk211 hl) (by omega) (fun i hi => ⟨Nat.lt_of_lt_of_le (rowN_at rr rh hi).1 h8, by rw [f1.I (by unfold ScG; omega)]; exact (rowN_at rr rh hi).2⟩) h5 F
  dsimp only at f1 c1 f2 c2
  have ex : x = y := stop_eq (P := stopP h (rowN h) F) (n := rn) (by omega) (by
    rcases c1 with ⟨z1, z2, -⟩ | z
    · exact Or.inl ⟨z1, z2⟩
    · exact Or.inr z) (by
    rcases c2 with ⟨z1, z2, -⟩ | z
    · exact Or.inl ⟨z1, z2⟩
    · exact Or.inr z)
  subst ex
  have m1 : ∀ i, i < 2 ^ 31 → ¬ nI i = -1 := fun i hi z => by
    have := nI_n0 i hi
    rw [z] at this
    exact this (by decide)
  refine ⟨x, g1, g2, e1, f1, e2, f2, fun i hi h31 => ?_, ?_, fun hx => ⟨?_, ?_⟩⟩
  · rcases c1 with ⟨z1, -⟩ | ⟨j, j1, j2, -⟩
    · exact absurd (hi.symm.trans z1) (m1 i h31)
    · have : i = j := nI_inj h31 (by omega) (hi.symm.trans j2)
      omega
  · rcases c1 with ⟨z1, -⟩ | ⟨j, j1, j2, -⟩
    · exact Or.inl z1
    · exact Or.inr ⟨j, j1, j2⟩
  · rcases c1 with ⟨-, -, z⟩ | ⟨j, j1, j2, -⟩
    · exact z
    · exact absurd (j2.symm.trans hx) (m1 j (by omega))
  · rcases c2 with ⟨-, -, z⟩ | ⟨j, j1, j2, -⟩
    · exact z
    · exact absurd (j2.symm.trans hx) (m1 j (by omega))
theorem ScM_G {g g' : AH} (f : Dfr ScM g g') : Dfr ScG g g' := f.mono (fun a k z => by unfold ScM at z; unfold ScG; omega)
theorem in_set {x : Int32} : (∃ n, n < 4096 ∧ x = nI n) → (if x < 0 then (0 : Int32) else if x < nI 4096 then 1 else 0) = 1 := by
  rintro ⟨n, n1, rfl⟩
  rw [if_neg (nI_n0 n (by omega)), if_pos (nI_lt n1 (by decide))]
theorem out_set {x : Int32} : (¬ ∃ n, n < 4096 ∧ x = nI n) → (if x < 0 then (0 : Int32) else if x < nI 4096 then 1 else 0) = 0 := by
  intro q
  rcases ix_cases x (show 4096 < 2 ^ 31 by decide) with z | z | ⟨z1, z2⟩
  · exact absurd z q
  · rw [if_pos z]
  · rw [if_neg z1, if_neg z2]
theorem o_stops (hl : Lay h) (rh : RHelp h hn ha) (rl : RLev h) (rr : RRow h hn rn) (F : Int32) : ∃ r h1 h2, f_C_stops h 4 F = some (r, h1) ∧ f_M_stops h1 201 F = some (r, h2) ∧ Dfr ScG h h2 := by
  by_cases q : ∃ n, n < 4096 ∧ F = nI n
  · obtain ⟨x, g1, g2, e1, f1, e2, f2, -⟩ := both_walk hl rh rl rr F
    have l1 := f1.lay hl
    have z15 : hI g1 201 15 = nI rn := by rw [f1.I (by unfold ScG; omega)]; exact rr.2.2.1
    refine ⟨x, g1, g2, ?_, ?_, f1.trans (ScM_G f2)⟩
    · simp [f_C_stops, isFacts_C, in_set q, gR_n (kk4 hl), LR hl, cv_n (c := 8) (kk107 hl), e1, bd2]
    · simp [f_M_stops, isSet_M, in_set q, gR_n (kk201 l1), LR l1, gI_n (kk201 l1), z15, cv_n (kk201 l1), e2, bd2]
  · exact ⟨-102, h, h, by simp [f_C_stops, isFacts_C, out_set q], by simp [f_M_stops, isSet_M, out_set q], Dfr.refl⟩
theorem end_C (hl : Lay h) (rr : RRow h hn rn) : f_Ro_end h 107 = some (some (117 + 3 * rn)) := by
  have h5 := rr.1
  obtain ⟨a1, a2, a3, a4, a5, a6⟩ := hl.going (i := rn) (by omega)
  simp only [f_Ro_end, gR_n (c := 8) (kk107 hl), LR hl, gI_n (c := 8) (kk107 hl), rr.2.1, Option.bind_some, rR_n (c := 3) (kk111 hl) (show rn < 6 by omega) (by decide), a4]
theorem m1_nI {i : Nat} (hi : i < 2 ^ 31) : ¬ nI i = -1 := fun z => by
  have := nI_n0 i hi
  rw [z] at this
  exact this (by decide)
theorem o_after (hl : Lay h) (rh : RHelp h hn ha) (rl : RLev h) (rr : RRow h hn rn) (F : Int32) : ∃ r h1 h2, f_C_after h 4 F = some (r, h1) ∧ f_M_after h1 201 F = some (r, h2) ∧ Dfr ScG h h2 := by
  by_cases q : ∃ n, n < 4096 ∧ F = nI n
  · obtain ⟨x, g1, g2, e1, f1, e2, f2, -, hx, hG⟩ := both_walk hl rh rl rr F
    have l1 := f1.lay hl
    have l2 := f2.lay l1
    have z15 : hI g1 201 15 = nI rn := by rw [f1.I (by unfold ScG; omega)]; exact rr.2.2.1
    have rr1 : RRow g1 hn rn := rr.ag hl.2.2.2.2.2.2 (f1.fr.ag (by unfold FRow ScG; omega))
    by_cases hm : x = -1
    · subst hm
      obtain ⟨G, M⟩ := hG rfl
      obtain ⟨a1, a2, a3, a4, a5, a6⟩ := l1.going (i := rn) (by have := rr.1; omega)
      refine ⟨(run h (rowN h) F rn).1, g1, g2, ?_, ?_, f1.trans (ScM_G f2)⟩
      · simp [f_C_after, cv_n (kk4 hl), f_C_goingRefusal, isFacts_C, in_set q, gR_n (kk4 hl), LR hl, cv_n (c := 8) (kk107 hl), e1, bd2, gR_n (kk4 l1), LR l1, cv_n (c := 8) (kk107 l1), end_C l1 rr1, gI_n (c := 3) a1, (G rn (Nat.le_refl _)).1]
      · simp [f_M_after, isSet_M, in_set q, gR_n (kk201 l1), LR l1, gI_n (kk201 l1), z15, cv_n (kk201 l1), e2, bd2, gI_n (kk201 l2), M.1]
    · refine ⟨-103, g1, g2, ?_, ?_, f1.trans (ScM_G f2)⟩
      · simp [f_C_after, cv_n (kk4 hl), f_C_goingRefusal, isFacts_C, in_set q, gR_n (kk4 hl), LR hl, cv_n (c := 8) (kk107 hl), e1, bd2, hm]
      · simp [f_M_after, isSet_M, in_set q, gR_n (kk201 l1), LR l1, gI_n (kk201 l1), z15, cv_n (kk201 l1), e2, bd2, hm]
  · exact ⟨-102, h, h, by simp [f_C_after, cv_n (kk4 hl), f_C_goingRefusal, isFacts_C, out_set q, bd2], by simp [f_M_after, isSet_M, out_set q], Dfr.refl⟩
theorem o_taint (hl : Lay h) (rh : RHelp h hn ha) (rl : RLev h) (rr : RRow h hn rn) (F y : Int32) : ∃ r h1 h2, f_C_taint h 4 F y = some (r, h1) ∧ f_M_taint h1 201 F y = some (r, h2) ∧ Dfr ScG h h2 := by
  have h5 := rr.1
  rcases ix_cases y (show 12 < 2 ^ 31 by decide) with ⟨f, hf, rfl⟩ | y0 | ⟨y0, y1⟩
  · have i1 : f_C_isFact h (nI f) = some 1 := by rw [isFact_C, if_neg (nI_n0 f (by omega)), if_pos (nI_lt hf (by decide))]
    have i2 : ∀ g, f_M_in g (nI f) 0 11 = some 1 := fun g => by
      have := in_Mk g (nI f) (n := 11) (by decide)
      rw [if_neg (nI_n0 f (by omega)), if_pos (nI_lt hf (by decide))] at this
      exact this
    by_cases q : ∃ n, n < 4096 ∧ F = nI n
    · obtain ⟨x, g1, g2, e1, f1, e2, f2, -, hx, hG⟩ := both_walk hl rh rl rr F
      have l1 := f1.lay hl
      have l2 := f2.lay l1
      have z15 : hI g1 201 15 = nI rn := by rw [f1.I (by unfold ScG; omega)]; exact rr.2.2.1
      have rr1 : RRow g1 hn rn := rr.ag hl.2.2.2.2.2.2 (f1.fr.ag (by unfold FRow ScG; omega))
      by_cases hm : x = -1
      · subst hm
        obtain ⟨G, M⟩ := hG rfl
        obtain ⟨a1, a2, a3, a4, a5, a6⟩ := l1.going (i := rn) (by omega)
        obtain ⟨G1, G2, -⟩ := G rn (Nat.le_refl _)
        have G2' := G2 f hf
        rw [show 117 + 3 * rn + 1 = 118 + 3 * rn by omega] at G2'
        cases hq : hb (run h (rowN h) F rn).1 f with
        | true =>
          refine ⟨(run h (rowN h) F rn).2 f, g1, g2, ?_, ?_, f1.trans (ScM_G f2)⟩
          · simp [f_C_taint, i1, cv_n (kk4 hl), f_C_goingRefusal, isFacts_C, in_set q, gR_n (kk4 hl), LR hl, cv_n (c := 8) (kk107 hl), e1, bd2, gR_n (kk4 l1), LR l1, cv_n (c := 8) (kk107 l1), end_C l1 rr1, gI_n (c := 3) a1, G1, hasBit_C, hq, bI, gR_n (c := 3) a1, a5, rI_n a2 hf (by decide), G2']
          · simp [f_M_taint, i2, isSet_M, in_set q, gR_n (kk201 l1), LR l1, gI_n (kk201 l1), z15, cv_n (kk201 l1), e2, bd2, gI_n (kk201 l2), M.1, hb_1, hq, gR_n (kk201 l2), LR l2, rI_n (kk232 l2) hf (by decide), M.2 f hf]
        | false =>
          refine ⟨-1, g1, g2, ?_, ?_, f1.trans (ScM_G f2)⟩
          · simp [f_C_taint, i1, cv_n (kk4 hl), f_C_goingRefusal, isFacts_C, in_set q, gR_n (kk4 hl), LR hl, cv_n (c := 8) (kk107 hl), e1, bd2, gR_n (kk4 l1), LR l1, cv_n (c := 8) (kk107 l1), end_C l1 rr1, gI_n (c := 3) a1, G1, hasBit_C, hq, bI]
          · simp [f_M_taint, i2, isSet_M, in_set q, gR_n (kk201 l1), LR l1, gI_n (kk201 l1), z15, cv_n (kk201 l1), e2, bd2, gI_n (kk201 l2), M.1, hb_1, hq]
      · refine ⟨-103, g1, g2, ?_, ?_, f1.trans (ScM_G f2)⟩
        · simp [f_C_taint, i1, cv_n (kk4 hl), f_C_goingRefusal, isFacts_C, in_set q, gR_n (kk4 hl), LR hl, cv_n (c := 8) (kk107 hl), e1, bd2, hm]
        · simp [f_M_taint, i2, isSet_M, in_set q, gR_n (kk201 l1), LR l1, gI_n (kk201 l1), z15, cv_n (kk201 l1), e2, bd2, hm]
    · exact ⟨-102, h, h, by simp [f_C_taint, i1, cv_n (kk4 hl), f_C_goingRefusal, isFacts_C, out_set q, bd2], by simp [f_M_taint, i2, isSet_M, out_set q], Dfr.refl⟩
  · have i2 : f_M_in h y 0 11 = some 0 := by
      have := in_Mk h y (n := 11) (by decide)
      rw [if_pos y0] at this
      exact this
    exact ⟨-101, h, h, by simp [f_C_taint, isFact_C, y0], by simp [f_M_taint, i2], Dfr.refl⟩
  · have i2 : f_M_in h y 0 11 = some 0 := by
      have := in_Mk h y (n := 11) (by decide)
      rw [if_neg y0, if_neg y1] at this
      exact this
    exact ⟨-101, h, h, by simp [f_C_taint, isFact_C, y0, y1], by simp [f_M_taint, i2], Dfr.refl⟩
/-- prices of a row -/
def prc (h0 : AH) (r : Nat → Nat) : Nat → Int32
  | 0 => 0
  | i + 1 => prc h0 r i + hI h0 209 (5 * r i)
theorem prices_M {g : AH} {arr : Nat} {r : Nat → Nat} {n0 : Nat} (hl : Lay g) (hk : hK g arr = (1, 5)) (h8 : ∀ i, i < n0 → r i < 8 ∧ hI g arr i = nI (r i)) (h5 : n0 ≤ 5) : f_M_pricesOf g 201 (some arr) (nI n0) = some (prc g r n0) := by
  have main : ∀ d j n, j + d = n0 → d < n → f_M_pricesOf_L5 g 201 (some arr) (nI n0) n (prc g r j) (nI j) = some (prc g r n0) := by
    intro d
    induction d with
    | zero =>
      intro j n hj hn
      obtain ⟨n, rfl⟩ : ∃ q, n = q + 1 := ⟨n - 1, by omega⟩
      have : j = n0 := by omega
      subst this
      simp only [f_M_pricesOf_L5, if_neg (show ¬ nI j < nI j from nI_nlt (Nat.le_refl _) (by omega))]
    | succ d ih =>
      intro j n hj hn
      obtain ⟨n, rfl⟩ : ∃ q, n = q + 1 := ⟨n - 1, by omega⟩
      rw [← ih (j + 1) n (by omega) (by omega)]
      have l1 : nI j < nI n0 := nI_lt (by omega) (by omega)
      obtain ⟨e0, e1⟩ := h8 j (by omega)
      have e2 : (5 : Int32) * nI (r j) = nI (5 * r j) := pk_mul 5 (r j)
      simp only [f_M_pricesOf_L5, l1, if_true, gR_n (kk201 hl), LR hl, Option.bind_some, rI_n hk (show j < 5 by omega) (by decide), e1, e2, rI_n (kk209 hl) (show 5 * r j < 40 by omega) (by decide), nI_1, prc]
  exact main n0 0 FU (by omega) (by unfold FU; omega)
theorem o_costs (hl : Lay h) (rh : RHelp h hn ha) (rr : RRow h hn rn) : ∃ r, f_C_costs h 4 = some r ∧ f_M_costs h 201 = some r := by
  have h5 := rr.1
  have h8 := rh.1
  have eM := prices_M (r := rowN h) (n0 := rn) hl (kk211 hl) (fun i hi => ⟨Nat.lt_of_lt_of_le (rowN_at rr rh hi).1 h8, (rowN_at rr rh hi).2⟩) h5
  have main : ∀ d j n, j + d = rn → d < n → f_Ro_sumOfPrices_L4 h 107 n (prc h (rowN h) j) (nI j) = some (prc h (rowN h) rn) := by
    intro d
    induction d with
    | zero =>
      intro j n hj hn
      obtain ⟨n, rfl⟩ : ∃ q, n = q + 1 := ⟨n - 1, by omega⟩
      have : j = rn := by omega
      subst this
      simp only [f_Ro_sumOfPrices_L4, gI_n (c := 8) (kk107 hl), rr.2.1, Option.bind_some, if_neg (show ¬ nI j < nI j from nI_nlt (Nat.le_refl _) (by omega))]
    | succ d ih =>
      intro j n hj hn
      obtain ⟨n, rfl⟩ : ∃ q, n = q + 1 := ⟨n - 1, by omega⟩
      rw [← ih (j + 1) n (by omega) (by omega)]
      have l1 : nI j < nI rn := nI_lt (by omega) (by omega)
      obtain ⟨s, hs, s1, s2, s3⟩ := rowAt_C hl rh rr (show j < rn by omega)
      have es : s = rowN h j := nI_inj (by omega) (by have := (rowN_at rr rh (show j < rn by omega)).1; omega) (by rw [← s1]; exact (rowN_at rr rh (show j < rn by omega)).2)
      have H := (rh.2.2.2 s hs).2
      simp only [f_Ro_sumOfPrices_L4, gI_n (c := 8) (kk107 hl), rr.2.1, Option.bind_some, l1, if_true, cv_n (c := 8) (kk107 hl), s3, H.tr, H.t0, nI_1, prc, ← es]
  refine ⟨prc h (rowN h) rn, ?_, ?_⟩
  · have := main rn 0 FU (by omega) (by unfold FU; omega)
    simp only [f_C_costs, gR_n (kk4 hl), LR hl, Option.bind_some, cv_n (c := 8) (kk107 hl), f_Ro_sumOfPrices]
    rw [show f_Ro_sumOfPrices_L4 h 107 FU 0 0 = some (prc h (rowN h) rn) from this]; rfl
  · simp only [f_M_costs, gR_n (kk201 hl), LR hl, gI_n (kk201 hl), rr.2.2.1, Option.bind_some, cv_n (kk201 hl), eM]
end RO
