/-! undone() -/
def undoN (h0 : AH) (s : Nat) : Nat := (hI h0 209 (5 * s + 4)).toNatClampNeg
def bk (h0 : AH) (r : Nat → Nat) : Nat → WS → Option WS
  | 0, W => some W
  | i + 1, W => if hI h0 209 (5 * r i + 4) = -1 then none else if okS h0 (undoN h0 (r i)) W = true then bk h0 r i (stp h0 (undoN h0 (r i)) W) else none
def und (h0 : AH) (r : Nat → Nat) (F : Int32) (k : Nat) : Bool := match bk h0 r k (run h0 r F k) with
  | none => false
  | some W => decide (W.1 = F)
section UN
variable {h0 g : AH} {hn rn : Nat} {ha : Nat → Nat} {W : WS} {tm : Nat → Nat}
theorem undo_at (rh : RHelp h0 hn ha) {s : Nat} (hs : s < hn) : hI h0 209 (5 * s + 4) = -1 ∨ (undoN h0 s < hn ∧ hI h0 209 (5 * s + 4) = nI (undoN h0 s)) := by
  have h8 := rh.1
  have H := (rh.2.2.2 s hs).2
  rcases H.2.2.2.2.2.2.2.2.2.2.2.2.2.1 with q | ⟨v, hv, q⟩
  · exact Or.inl q
  · refine Or.inr ?_
    unfold undoN
    rw [q, cl_nI (by omega)]
    exact ⟨hv, rfl⟩
theorem undo_C (hl : Lay h0) (rh : RHelp h0 hn ha) (rl : RLev h0) (rr : RRow h0 hn rn) (F : Int32) (k0 : AH → Option (Int32 × AH)) (Q : Int32 × AH → Prop) (P0 : AH → Prop)
    (hno : ∀ e, Dfr (ScB 112) g e → Q (0, e)) : ∀ i, i ≤ rn → ∀ n (e : AH) (W : WS) (tm : Nat → Nat), i < n → Dfr ScG h0 g → Dfr (ScB 112) g e → GRel 112 e W tm → (∀ e' W' tm', Dfr (ScB 112) g e' → GRel 112 e' W' tm' → bk h0 (rowN h0) i W = some W' → OK (k0 e') Q) → (bk h0 (rowN h0) i W = none → ∀ e, Dfr (ScB 112) g e → Q (0, e)) →
    OK (f_Ro_isUndone_L17 107 F k0 n (nI i - 1) e) Q := by
  intro i
  induction i with
  | zero =>
    intro _ n e W tm hn' f0 f1 G hk _
    obtain ⟨n, rfl⟩ : ∃ q, n = q + 1 := ⟨n - 1, by omega⟩
    have : nI 0 - 1 < 0 := by decide
    simp only [f_Ro_isUndone_L17, this, if_true]
    exact hk e W tm f1 G rfl
  | succ i ih =>
    intro hi n e W tm hn' f0 f1 G hk hno'
    obtain ⟨n, rfl⟩ : ∃ q, n = q + 1 := ⟨n - 1, by omega⟩
    have h5 := rr.1
    have h8 := rh.1
    have f1' : Dfr ScG g e := f1.mono (fun a k z => by unfold ScB at z; unfold ScG; omega)
    have f01 := f0.trans f1'
    have le := f01.lay hl
    have rhe := sc_help hl rh f01
    have rre : RRow e hn rn := rr.ag hl.2.2.2.2.2.2 (f01.fr.ag (by unfold FRow ScG; omega))
    obtain ⟨s, hs, s1, s2, s3⟩ := rowAt_C le rhe rre (show i < rn by omega)
    obtain ⟨w1, w2⟩ := rowN_at rr rh (show i < rn by omega)
    have es : s = rowN h0 i := nI_inj (by omega) (by omega) (by rw [← s1, f01.I (by unfold ScG; omega)]; exact w2)
    subst es
    have H := (rhe.2.2.2 _ hs).2
    obtain ⟨⟨k1, k2, k3⟩, ⟨r1, r2⟩, b1, b2⟩ := GoB.facts le (Or.inl rfl : GoB 112)
    obtain ⟨t1, t2⟩ := helpC le rhe
    have e9 := sc_static f01 (a := 209) (k := 5 * rowN h0 i + 4) (by omega)
    simp only [f_Ro_isUndone_L17, nI_pred, if_neg (nI_n0 i (by omega)), cv_n (c := 8) (kk107 le), s3, Option.bind_some, H.tr, H.t4, e9]
    rcases undo_at rh w1 with u | ⟨u1, u2⟩
    · have : ¬ ∃ s, s < hn ∧ hI h0 209 (5 * rowN h0 i + 4) = nI s := fun ⟨s, z1, z2⟩ => m1_nI (i := s) (by omega) (z2.symm.trans u)
      simp only [(t2 _ this).1, Option.bind_some, onl]
      exact OK.mk (hno' (by simp only [bk, if_pos u]) e f1)
    · have hm : ¬ hI h0 209 (5 * rowN h0 i + 4) = -1 := fun z => m1_nI (i := undoN h0 (rowN h0 i)) (by omega) (u2.symm.trans z)
      have T := trust_C hl rh f01 u1 (Or.inl rfl : GoB 112) G
      simp only [u2, (t1 _ u1).1, Option.bind_some, onl, gR_n (c := 8) (kk107 le), LR le, cv_n (c := 3) k1, T]
      cases hq : okS h0 (undoN h0 (rowN h0 i)) W with
      | false =>
        simp only [bI, Bool.false_eq_true, if_false, if_true]
        exact OK.mk (hno' (by simp only [bk, if_neg hm, hq, Bool.false_eq_true, if_false]) e f1)
      | true =>
        simp only [bI, if_true, show ¬ ((1 : Int32) = 0) by decide, if_false]
        obtain ⟨g2, e2, f2, G2⟩ := go_C hl rh rl f01 u1 (Or.inl rfl : GoB 112) G
        simp only [e2, Option.bind_some]
        have eb : bk h0 (rowN h0) (i + 1) W = bk h0 (rowN h0) i (stp h0 (undoN h0 (rowN h0 i)) W) := by simp only [bk, if_neg hm, hq, if_true]
        have := ih (by omega) n g2 _ _ (by omega) f0 (f1.trans f2) G2 (fun e' W' tm' y1 y2 y3 => hk e' W' tm' y1 y2 (eb.trans y3)) (fun y e' y1 => hno' (eb.trans y) e' y1)
        rw [show nI i + (-1 : Int32) = nI i - 1 by rw [Int32.sub_eq_add_neg]]
        exact this
theorem isUndone_C (hl : Lay h0) (rh : RHelp h0 hn ha) (rl : RLev h0) (rr : RRow h0 hn rn) (F : Int32) (f0 : Dfr ScG h0 g) {k : Nat} (hk : k ≤ rn) (G : GRel (117 + 3 * k) g (run h0 (rowN h0) F k) tm) : OK (f_Ro_isUndone g 107 F (nI k)) (fun q => q.1 = bI (und h0 (rowN h0) F k) ∧ Dfr (ScB 112) g q.2) := by
  have h5 := rr.1
  have lg := f0.lay hl
  obtain ⟨a1, a2, a3, a4, a5, a6⟩ := lg.going (i := k) (by omega)
  obtain ⟨⟨k1, k2, k3⟩, ⟨r1, r2⟩, b1, b2⟩ := GoB.facts lg (Or.inl rfl : GoB 112)
  obtain ⟨g1, e1, f1, G1⟩ := become_C lg (Or.inl rfl : GoB 112) (Or.inr ⟨k, by omega, rfl⟩ : GoB (117 + 3 * k)) (by omega) G
  simp only [f_Ro_isUndone, gR_n (c := 8) (kk107 lg), LR lg, Option.bind_some, rR_n (c := 3) (kk111 lg) (show k < 6 by omega) (by decide), a4, cv_n (c := 3) k1, e1]
  cases hb' : bk h0 (rowN h0) k (run h0 (rowN h0) F k) with
  | none =>
    have eu : und h0 (rowN h0) F k = false := by unfold und; rw [hb']
    rw [eu]
    exact undo_C hl rh rl rr F _ _ (fun _ => True) (fun e fe => ⟨rfl, fe⟩) k hk FU g1 _ _ (by unfold FU; omega) f0 f1 G1 (fun e' W' tm' y1 y2 y3 => by rw [hb'] at y3; cases y3) (fun _ e fe => ⟨rfl, fe⟩)
  | some W1 =>
    have eu : und h0 (rowN h0) F k = decide (W1.1 = F) := by unfold und; rw [hb']
    rw [eu]
    have hno : bk h0 (rowN h0) k (run h0 (rowN h0) F k) = none → ∀ e, Dfr (ScB 112) g e → (0 : Int32) = bI (decide (W1.1 = F)) ∧ Dfr (ScB 112) g e := fun z => by rw [hb'] at z; cases z
    -- the answer 0 on the way never comes
    have main : ∀ i, i ≤ rn → ∀ n (e : AH) (W : WS) (tm : Nat → Nat), i < n → Dfr (ScB 112) g e → GRel 112 e W tm → bk h0 (rowN h0) i W = some W1 → OK (f_Ro_isUndone_L17 107 F (fun h22 =>
        (gR 8 h22 107 6).bind fun r23 =>
        (r23).bind fun a24 =>
        (gI 3 h22 a24 0).bind fun x25 =>
        if x25 = F then
          some ((1 : Int32), h22)
        else
          some ((0 : Int32), h22)) n (nI i - 1) e) (fun q => q.1 = bI (decide (W1.1 = F)) ∧ Dfr (ScB 112) g q.2) := by
      intro i
      induction i with
      | zero =>
        intro _ n e W tm hn' f1 G hk
        obtain ⟨n, rfl⟩ : ∃ q, n = q + 1 := ⟨n - 1, by omega⟩
        have : nI 0 - 1 < 0 := by decide
        have f1' : Dfr ScG g e := f1.mono (fun a k z => by unfold ScB at z; unfold ScG; omega)
        have le := (f0.trans f1').lay hl
        have hW : W = W1 := by simpa [bk] using hk
        subst hW
        simp only [f_Ro_isUndone_L17, this, if_true, gR_n (c := 8) (kk107 le), LR le, Option.bind_some, gI_n (c := 3) (kk112 le), G.1]
        by_cases q : W.1 = F
        · simp only [q, if_true]
          exact OK.mk ⟨by simp [bI], f1⟩
        · simp only [q, if_false]
          exact OK.mk ⟨by simp [bI], f1⟩
      | succ i ih =>
        intro hi n e W tm hn' f1 G hk
        obtain ⟨n, rfl⟩ : ∃ q, n = q + 1 := ⟨n - 1, by omega⟩
        have h8 := rh.1
        have f1' : Dfr ScG g e := f1.mono (fun a k z => by unfold ScB at z; unfold ScG; omega)
        have f01 := f0.trans f1'
        have le := f01.lay hl
        have rhe := sc_help hl rh f01
        have rre : RRow e hn rn := rr.ag hl.2.2.2.2.2.2 (f01.fr.ag (by unfold FRow ScG; omega))
        obtain ⟨s, hs, s1, s2, s3⟩ := rowAt_C le rhe rre (show i < rn by omega)
        obtain ⟨w1, w2⟩ := rowN_at rr rh (show i < rn by omega)
        have es : s = rowN h0 i := nI_inj (by omega) (by omega) (by rw [← s1, f01.I (by unfold ScG; omega)]; exact w2)
        subst es
        have H := (rhe.2.2.2 _ hs).2
        obtain ⟨⟨k1, k2, k3⟩, ⟨r1, r2⟩, b1, b2⟩ := GoB.facts le (Or.inl rfl : GoB 112)
        obtain ⟨t1, t2⟩ := helpC le rhe
        have e9 := sc_static f01 (a := 209) (k := 5 * rowN h0 i + 4) (by omega)
        simp only [f_Ro_isUndone_L17, nI_pred, if_neg (nI_n0 i (by omega)), cv_n (c := 8) (kk107 le), s3, Option.bind_some, H.tr, H.t4, e9]
        rcases undo_at rh w1 with u | ⟨u1, u2⟩
        · simp only [bk, if_pos u] at hk; cases hk
        · have hm : ¬ hI h0 209 (5 * rowN h0 i + 4) = -1 := fun z => m1_nI (i := undoN h0 (rowN h0 i)) (by omega) (u2.symm.trans z)
          have T := trust_C hl rh f01 u1 (Or.inl rfl : GoB 112) G
          simp only [u2, (t1 _ u1).1, Option.bind_some, onl, gR_n (c := 8) (kk107 le), LR le, cv_n (c := 3) k1, T]
          cases hq : okS h0 (undoN h0 (rowN h0 i)) W with
          | false => simp only [bk, if_neg hm, hq, Bool.false_eq_true, if_false] at hk; cases hk
          | true =>
            simp only [bI, if_true, show ¬ ((1 : Int32) = 0) by decide, if_false]
            obtain ⟨g2, e2, f2, G2⟩ := go_C hl rh rl f01 u1 (Or.inl rfl : GoB 112) G
            simp only [e2, Option.bind_some]
            have eb : bk h0 (rowN h0) (i + 1) W = bk h0 (rowN h0) i (stp h0 (undoN h0 (rowN h0 i)) W) := by simp only [bk, if_neg hm, hq, if_true]
            rw [show nI i + (-1 : Int32) = nI i - 1 by rw [Int32.sub_eq_add_neg]]
            exact ih (by omega) n g2 _ _ (by omega) (f1.trans f2) G2 (eb.symm.trans hk)
    exact main k hk FU g1 _ _ (by unfold FU; omega) f1 G1 hb'
def fin (F : Int32) : Option WS → Bool
  | none => false
  | some W => decide (W.1 = F)
theorem und_fin (r : Nat → Nat) (F : Int32) (k : Nat) : und h0 r F k = fin F (bk h0 r k (run h0 r F k)) := by
  unfold und
  cases bk h0 r k (run h0 r F k) <;> rfl
theorem back_M (hl : Lay h0) (rh : RHelp h0 hn ha) (rr : RRow h0 hn rn) (F : Int32) (f0 : Dfr ScG h0 g) : ∀ i, i ≤ rn → ∀ n (e : AH) (W : WS), i < n → Dfr ScM g e → MRel e W → OK (f_M_holdsBack_L32 201 F (fun h16 =>
      (gI 12 h16 201 51).bind fun x17 =>
      if x17 = F then
        some ((1 : Int32), h16)
      else
        some ((0 : Int32), h16)) n (nI i - 1) e) (fun q => q.1 = bI (fin F (bk h0 (rowN h0) i W)) ∧ Dfr ScM g q.2) := by
  intro i
  have h5 := rr.1
  have h8 := rh.1
  induction i with
  | zero =>
    intro _ n e W hn' f1 M
    obtain ⟨n, rfl⟩ : ∃ q, n = q + 1 := ⟨n - 1, by omega⟩
    have : nI 0 - 1 < 0 := by decide
    have le := f1.lay (f0.lay hl)
    simp only [f_M_holdsBack_L32, this, if_true, gI_n (kk201 le), M.1, Option.bind_some, bk, fin]
    by_cases q : W.1 = F
    · simp only [q, if_true]
      exact OK.mk ⟨by simp [bI], f1⟩
    · simp only [q, if_false]
      exact OK.mk ⟨by simp [bI], f1⟩
  | succ i ih =>
    intro hi n e W hn' f1 M
    obtain ⟨n, rfl⟩ : ∃ q, n = q + 1 := ⟨n - 1, by omega⟩
    have f01 := f0.trans (ScM_G f1)
    have le := f01.lay hl
    obtain ⟨w1, w2⟩ := rowN_at rr rh (show i < rn by omega)
    have e9 := sc_static f01 (a := 209) (k := 5 * rowN h0 i + 4) (by omega)
    have e11 := sc_static f01 (a := 211) (k := i) (by omega)
    have e4 : ((5 : Int32) * nI (rowN h0 i)) + (4 : Int32) = nI (5 * rowN h0 i + 4) := by rw [show (5 : Int32) = nI 5 from rfl, pk_mul]; exact nI_add (5 * rowN h0 i) 4
    simp only [f_M_holdsBack_L32, nI_pred, if_neg (nI_n0 i (by omega)), gR_n (kk201 le), LR le, Option.bind_some, rI_n (kk211 le) (show i < 5 by omega) (by decide), e11, w2, e4, rI_n (kk209 le) (show 5 * rowN h0 i + 4 < 40 by omega) (by decide), e9]
    rcases undo_at rh w1 with u | ⟨u1, u2⟩
    · rw [if_pos u]
      exact OK.mk ⟨by simp only [bk, if_pos u, fin]; rfl, f1⟩
    · have hm : ¬ hI h0 209 (5 * rowN h0 i + 4) = -1 := fun z => m1_nI (i := undoN h0 (rowN h0 i)) (by omega) (u2.symm.trans z)
      rw [if_neg hm]
      have T := mayGo_M' hl f01 (s := undoN h0 (rowN h0 i)) (by omega) M
      simp only [u2, cv_n (kk201 le), T, Option.bind_some]
      cases hq : okS h0 (undoN h0 (rowN h0 i)) W with
      | false =>
        simp only [bI, Bool.false_eq_true, if_false, if_true]
        exact OK.mk ⟨by simp only [bk, if_neg hm, hq, Bool.false_eq_true, if_false, fin], f1⟩
      | true =>
        simp only [bI, if_true, show ¬ ((1 : Int32) = 0) by decide, if_false]
        obtain ⟨g2, e2, f2, M2⟩ := go_M hl f01 (s := undoN h0 (rowN h0 i)) (by omega) M
        simp only [e2, Option.bind_some]
        have eb : bk h0 (rowN h0) (i + 1) W = bk h0 (rowN h0) i (stp h0 (undoN h0 (rowN h0 i)) W) := by simp only [bk, if_neg hm, hq, if_true]
        rw [show nI i + (-1 : Int32) = nI i - 1 by rw [Int32.sub_eq_add_neg], eb]
        exact ih (by omega) n g2 _ (by omega) (f1.trans f2) M2
theorem holds_M (hl : Lay h0) (rh : RHelp h0 hn ha) (rr : RRow h0 hn rn) (F : Int32) (f0 : Dfr ScG h0 g) {k : Nat} (hk : k ≤ rn) : OK (f_M_holdsBack g 201 F (nI k)) (fun q => q.1 = bI (und h0 (rowN h0) F k) ∧ Dfr ScM g q.2) := by
  have h5 := rr.1
  have h8 := rh.1
  have lg := f0.lay hl
  obtain ⟨g1, e1, f1, M1⟩ := start_M hl f0 F
  simp only [f_M_holdsBack, cv_n (kk201 lg), e1, Option.bind_some]
  refine loopU (fun n (x : Nat × AH) => f_M_holdsBack_L7 201 F (nI k) _ n (nI x.1) x.2) (fun x => x.1 ≤ k ∧ Dfr ScM g x.2 ∧ MRel x.2 (run h0 (rowN h0) F x.1)) (fun x => k - x.1) _ ?_ FU (0, g1) ⟨by simp, f1, M1⟩ (by show k - 0 < FU; unfold FU; omega)
  intro n x ⟨i1, i2, i3⟩ ih
  obtain ⟨i, e⟩ := x
  dsimp only at i1 i2 i3 ih ⊢
  have f01 := f0.trans (ScM_G i2)
  have le := f01.lay hl
  by_cases q : i < k
  · have l1 : nI i < nI k := nI_lt q (by omega)
    obtain ⟨w1, w2⟩ := rowN_at rr rh (show i < rn by omega)
    have e11 := sc_static f01 (a := 211) (k := i) (by omega)
    obtain ⟨g2, e2, f2, M2⟩ := go_M hl f01 (s := rowN h0 i) (by omega) i3
    simp only [f_M_holdsBack_L7, l1, if_true, gR_n (kk201 le), LR le, Option.bind_some, rI_n (kk211 le) (show i < 5 by omega) (by decide), e11, w2, cv_n (kk201 le), e2, nI_1]
    exact ih (i + 1, g2) ⟨by dsimp only; omega, i2.trans f2, M2⟩ (by dsimp only; omega)
  · have : i = k := by omega
    subst this
    simp only [f_M_holdsBack_L7, if_neg (show ¬ nI i < nI i from nI_nlt (Nat.le_refl _) (by omega)), Option.bind_some]
    rw [und_fin]
    exact back_M hl rh rr F f0 i hk FU e _ (by unfold FU; omega) i2 i3
end UN
section UO
variable {h : AH} {hn rn : Nat} {ha : Nat → Nat}
theorem o_undone (hl : Lay h) (rh : RHelp h hn ha) (rl : RLev h) (rr : RRow h hn rn) (F : Int32) : ∃ r h1 h2, f_C_undone h 4 F = some (r, h1) ∧ f_M_undone h1 201 F = some (r, h2) ∧ Dfr ScG h h2 := by
  have h5 := rr.1
  by_cases q : ∃ n, n < 4096 ∧ F = nI n
  · obtain ⟨x, g1, g2, e1, f1, e2, f2, -, hx, hG⟩ := both_walk hl rh rl rr F
    have l1 := f1.lay hl
    have l2 := f2.lay l1
    have z15 : hI g1 201 15 = nI rn := by rw [f1.I (by unfold ScG; omega)]; exact rr.2.2.1
    by_cases hm : x = -1
    · subst hm
      obtain ⟨G, M⟩ := hG rfl
      have cC : OK (f_Ro_undoings g1 107 F) (fun q => q.1 = nI (msk (und h (rowN h) F) (rn + 1)) ∧ Dfr (ScB 112) g1 q.2) := by
        refine loopU (fun n (x : Nat × AH) => f_Ro_undoings_L4 107 F n (nI (msk (und h (rowN h) F) x.1)) (nI x.1) x.2) (fun x => x.1 ≤ rn + 1 ∧ Dfr (ScB 112) g1 x.2) (fun x => rn + 1 - x.1) _ ?_ FU (0, g1) ⟨by simp, Dfr.refl⟩ (by show rn + 1 - 0 < FU; unfold FU; omega)
        intro n x ⟨i1, i2⟩ ih
        obtain ⟨i, e⟩ := x
        dsimp only at i1 i2 ih ⊢
        have i2' : Dfr ScG g1 e := i2.mono (fun a k z => by unfold ScB at z; unfold ScG; omega)
        have f01 := f1.trans i2'
        have le := f01.lay hl
        have z4 : hI e 107 4 = nI rn := by rw [f01.I (by unfold ScG; omega)]; exact rr.2.1
        by_cases qi : i ≤ rn
        · have l1 : ¬ nI rn < nI i := nI_nlt qi (by omega)
          have Ge : GRel (117 + 3 * i) e (run h (rowN h) F i) (fun x => cnt (rowN h) x i) := by
            obtain ⟨y1, y2, y3⟩ := G i qi
            refine ⟨?_, fun x hx => ?_, fun x hx => ?_⟩
            · rw [i2.I (by unfold ScB; omega)]; exact y1
            · rw [i2.I (by unfold ScB; omega)]; exact y2 x hx
            · rw [i2.I (by unfold ScB; omega)]; exact y3 x hx
          obtain ⟨⟨u, e3⟩, eu, u1, u2⟩ := isUndone_C hl rh rl rr F f01 qi Ge
          dsimp only at u1 u2
          have := ih (i + 1, e3) ⟨by dsimp only; omega, i2.trans u2⟩ (by dsimp only; omega)
          simp only [f_Ro_undoings_L4, gI_n (c := 8) (kk107 le), z4, Option.bind_some, l1, if_false, cv_n (c := 8) (kk107 le), eu, bd2, u1, bI0, shl1 (show i < 31 by omega), nI_1]
          dsimp only at this
          rw [msk_or] at this
          cases hu : und h (rowN h) F i with
          | false =>
            rw [hu] at this
            simpa using this
          | true =>
            rw [hu] at this
            simpa [nI_or] using this
        · have : i = rn + 1 := by omega
          subst this
          refine OK.eq (a := (nI (msk (und h (rowN h) F) (rn + 1)), e)) ?_ ⟨rfl, i2⟩
          simp only [f_Ro_undoings_L4, gI_n (c := 8) (kk107 le), z4, Option.bind_some, if_pos (nI_lt (show rn < rn + 1 by omega) (by omega))]
      obtain ⟨⟨u, c1⟩, ec, u1, u2⟩ := cC
      dsimp only at u1 u2
      have fc : Dfr ScG h c1 := f1.trans (u2.mono (fun a k z => by unfold ScB at z; unfold ScG; omega))
      have lc := fc.lay hl
      obtain ⟨⟨y, m1⟩, em, fm, cm⟩ := walk_M hl fc (kk211 hl) (by omega) (fun i hi => ⟨Nat.lt_of_lt_of_le (rowN_at rr rh hi).1 rh.1, by rw [fc.I (by unfold ScG; omega)]; exact (rowN_at rr rh hi).2⟩) h5 F
      dsimp only at fm cm
      have z15c : hI c1 201 15 = nI rn := by rw [fc.I (by unfold ScG; omega)]; exact rr.2.2.1
      obtain ⟨⟨z, g3⟩, ez, fz, cz⟩ := stop_C hl rh rl rr F
      have hzz : (z, g3) = (-1, g1) := Option.some.inj (ez.symm.trans e1)
      have hz1 : z = -1 := congrArg Prod.fst hzz
      dsimp only at cz
      have hy : y = -1 := by
        have := stop_eq (P := stopP h (rowN h) F) (n := rn) (x := z) (y := y) (by omega) (by
          rcases cz with ⟨z1, z2, -⟩ | z
          · exact Or.inl ⟨z1, z2⟩
          · exact Or.inr z) (by
          rcases cm with ⟨z1, z2, -⟩ | z
          · exact Or.inl ⟨z1, z2⟩
          · exact Or.inr z)
        rw [← this, hz1]
      subst hy
      have fm0 := fc.trans (ScM_G fm)
      have lm := fm0.lay hl
      have cM : OK (f_M_undone_L34 201 F FU 0 0 m1) (fun q => q.1 = nI (msk (und h (rowN h) F) (rn + 1)) ∧ Dfr ScM m1 q.2) := by
        refine loopU (fun n (x : Nat × AH) => f_M_undone_L34 201 F n (nI (msk (und h (rowN h) F) x.1)) (nI x.1) x.2) (fun x => x.1 ≤ rn + 1 ∧ Dfr ScM m1 x.2) (fun x => rn + 1 - x.1) _ ?_ FU (0, m1) ⟨by simp, Dfr.refl⟩ (by show rn + 1 - 0 < FU; unfold FU; omega)
        intro n x ⟨i1, i2⟩ ih
        obtain ⟨i, e⟩ := x
        dsimp only at i1 i2 ih ⊢
        have f01 := fm0.trans (ScM_G i2)
        have le := f01.lay hl
        have z4 : hI e 201 15 = nI rn := by rw [f01.I (by unfold ScG; omega)]; exact rr.2.2.1
        by_cases qi : i ≤ rn
        · have l1 : ¬ nI rn < nI i := nI_nlt qi (by omega)
          obtain ⟨⟨u, e3⟩, eu, u1, u2⟩ := holds_M hl rh rr F f01 qi
          dsimp only at u1 u2
          have := ih (i + 1, e3) ⟨by dsimp only; omega, i2.trans u2⟩ (by dsimp only; omega)
          simp only [f_M_undone_L34, gI_n (kk201 le), z4, Option.bind_some, l1, if_false, cv_n (kk201 le), eu, bd2, u1, bI0, shl1 (show i < 31 by omega), nI_1]
          dsimp only at this
          rw [msk_or] at this
          cases hu : und h (rowN h) F i with
          | false =>
            rw [hu] at this
            simpa using this
          | true =>
            rw [hu] at this
            simpa [nI_or] using this
        · have : i = rn + 1 := by omega
          subst this
          refine OK.eq (a := (nI (msk (und h (rowN h) F) (rn + 1)), e)) ?_ ⟨rfl, i2⟩
          simp only [f_M_undone_L34, gI_n (kk201 le), z4, Option.bind_some, if_pos (nI_lt (show rn < rn + 1 by omega) (by omega))]
      obtain ⟨⟨v, m2⟩, ev, v1, v2⟩ := cM
      dsimp only at v1 v2
      refine ⟨u, c1, m2, ?_, ?_, fm0.trans (ScM_G v2)⟩
      · simp [f_C_undone, cv_n (kk4 hl), f_C_goingRefusal, isFacts_C, in_set q, gR_n (kk4 hl), LR hl, cv_n (c := 8) (kk107 hl), e1, bd2, gR_n (kk4 l1), LR l1, cv_n (c := 8) (kk107 l1), ec]
      · simp [f_M_undone, isSet_M, in_set q, gR_n (kk201 lc), LR lc, gI_n (kk201 lc), z15c, cv_n (kk201 lc), em, bd2, ev, v1, u1]
    · refine ⟨-103, g1, g2, ?_, ?_, f1.trans (ScM_G f2)⟩
      · simp [f_C_undone, cv_n (kk4 hl), f_C_goingRefusal, isFacts_C, in_set q, gR_n (kk4 hl), LR hl, cv_n (c := 8) (kk107 hl), e1, bd2, hm]
      · simp [f_M_undone, isSet_M, in_set q, gR_n (kk201 l1), LR l1, gI_n (kk201 l1), z15, cv_n (kk201 l1), e2, bd2, hm]
  · exact ⟨-102, h, h, by simp [f_C_undone, cv_n (kk4 hl), f_C_goingRefusal, isFacts_C, out_set q, bd2], by simp [f_M_undone, isSet_M, out_set q], Dfr.refl⟩
end UO
