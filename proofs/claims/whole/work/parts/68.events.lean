/-! THE LOG'S EVENTS -/
theorem nI_toNat {n : Nat} (h : n < 2 ^ 31) : (nI n).toBitVec.toNat = n := by
  show (BitVec.ofNat 32 n).toNat = n
  rw [BitVec.toNat_ofNat]
  exact Nat.mod_eq_of_lt (by omega)
theorem lt_nI {n : Nat} (hn : n < 2 ^ 30) (x : Int32) : (nI n < x) ↔ ¬ x < nI (n + 1) := by
  rw [Int32.lt_iff_toInt_lt, Int32.lt_iff_toInt_lt, nI_toInt (by omega), nI_toInt (by omega)]
  omega
def SLog (a k : Nat) : Prop := (a = 135 ∧ k = 1) ∨ (a = 201 ∧ (k = 17 ∨ k = 18)) ∨ a = 212 ∨ a = 213 ∨ (138 ≤ a ∧ a ≤ 200)
section LG
variable {h g : AH} {hn ev : Nat} {ha : Nat → Nat}
theorem wld_cong {h h' : AH} {t : Nat} (a : ∀ e, e < t → hI h' 212 e = hI h 212 e ∧ hI h' 213 e = hI h 213 e) (b : hI h' 201 17 = hI h 201 17) (c : ∀ k, hI h' 206 k = hI h 206 k ∧ hI h' 207 k = hI h 207 k ∧ hI h' 208 k = hI h 208 k) : wld h' t = wld h t := by
  induction t with
  | zero => funext w; show decide (hI h' 201 17 = nI w) = decide (hI h 201 17 = nI w); rw [b]
  | succ t ih =>
    show stepW h' t (wld h' t) = stepW h t (wld h t)
    rw [ih (fun e he => a e (by omega))]
    unfold stepW ofN
    rw [(a t (by omega)).1, (a t (by omega)).2, (c _).1, (c _).2.1, (c _).2.2]
theorem RLog.wr (r : RLog h hn ev) {t : Nat} (ht : t ≤ ev) : WR h (140 + 2 * t) (wld h t) := fun k hk j hj => by
  have := r.2.2.2.2.2 t ht (64 * k + j) (by omega)
  rw [show (64 * k + j) / 64 = k by omega, show (64 * k + j) % 64 = j by omega] at this
  exact this
theorem WR.w {c : Nat} {S : Nat → Bool} (r : WR h c S) {w : Nat} (hw : w < 4096) : (hJ h c (w / 64)).toBitVec.getLsbD (w % 64) = S w := by
  have := r (w / 64) (by omega) (w % 64) (by omega)
  rw [this]
  congr 1
  omega
def SEv (ev a k : Nat) : Prop := a = 138 ∨ a = 140 + 2 * (ev + 1) ∨ (a = 135 ∧ k = 1)
theorem addEvent_C (hl : Lay h) (rl : RLog h hn ev) (h30 : ev < 30) : OK (f_Lo_addEvent h 135) (fun q => q.1 = some (139 + 2 * (ev + 1)) ∧ Dfr (SEv ev) h q.2 ∧ WR q.2 (140 + 2 * (ev + 1)) (wld h ev) ∧ hI q.2 135 1 = nI (ev + 1)) := by
  have r2 := rl.2.1
  have q30 : nI ev < 30 := nI_lt (b := 30) h30 (by decide)
  obtain ⟨g1, e1, f1, w1⟩ := become_W (hl.wo (show ev + 1 < 31 by omega)) (hl.wo (show ev < 31 by omega)) (rl.wr (Nat.le_refl ev))
  have l1 := f1.lay hl
  have r1 : hI g1 135 1 = nI ev := by rw [f1.I (by unfold OnC; omega)]; exact r2
  have f2 : Dfr (SEv ev) h (uI g1 135 1 (nI (ev + 1))) := (f1.mono (fun a k z => Or.inr (Or.inl z))).trans (Dfr.uI (by decide) (Or.inr (Or.inr ⟨rfl, rfl⟩)))
  have l2 := f2.lay hl
  have e2 : hI (uI g1 135 1 (nI (ev + 1))) 135 1 = nI (ev + 1) := hI_eq
  refine OK.eq (a := (some (139 + 2 * (ev + 1)), uI g1 135 1 (nI (ev + 1)))) ?_ ⟨rfl, f2, w1.d (Dfr.uI (S := fun a k => a = 135) (by decide) rfl) (fun k z => by omega), e2⟩
  simp only [f_Lo_addEvent, gI_n (c := 6) (kk135 hl), r2, q30, if_true, gR_n (c := 6) (kk135 hl), LR hl, Option.bind_some, nI_1, rR_n (c := 11) (kk136 hl) (show ev + 1 < 31 by omega) (by decide), rR_n (c := 11) (kk136 hl) (show ev < 31 by omega) (by decide), (hl.wrld (show ev < 31 by omega)).2.2.1, (hl.wrld (show ev + 1 < 31 by omega)).2.2.1, cv_n (c := 11) (hl.wo (show ev + 1 < 31 by omega)).1, e1, gI_n (c := 6) (kk135 l1), r1, pI_n (c := 6) (kk135 l1), gI_n (c := 6) (kk135 l2), gR_n (c := 6) (kk135 l2), LR l2, e2, rR_n (c := 11) (kk136 l2) (show ev + 1 < 31 by omega) (by decide), (l2.wrld (show ev + 1 < 31 by omega)).2.2.1]
theorem HP.th {s a : Nat} (H : HP h hn s a) : ∃ nd gv tk, nd < 4096 ∧ gv < 4096 ∧ tk < 4096 ∧ hI h 206 s = nI nd ∧ hI h 207 s = nI gv ∧ hI h 208 s = nI tk ∧ TH h a nd gv tk := by
  obtain ⟨a1, a2, a3, a4, a5, a6, a7, a8, a9, b1, b2, b3, b4, b5, ⟨nd, n1, n2⟩, ⟨gv, g1, g2⟩, ⟨tk, t1, t2⟩⟩ := H
  exact ⟨nd, gv, tk, n1, g1, t1, n2, g2, t2, a1, a3, a4, a5, a7.trans n2, a8.trans g2, a9.trans t2⟩
theorem addCall_C (hl : Lay h) (rl : RLog h hn ev) (h30 : ev < 30) {a nd gv tk s k : Nat} (hn' : nd < 4096) (hg : gv < 4096) (ht : tk < 4096) (t : TH h a nd gv tk) (hk : k < 3) : OK (f_Lo_addCall h 135 (some a) (nI k)) (fun h' => Dfr (SEv ev) h h' ∧ WR h' (140 + 2 * (ev + 1)) (stepK (nI k) s nd gv tk (wld h ev)) ∧ hI h' 135 1 = nI (ev + 1)) := by
  obtain ⟨⟨r1, g1⟩, e1, q1, f1, w1, v1⟩ := addEvent_C hl rl h30
  dsimp only at q1 f1 w1 v1
  subst q1
  have l1 := f1.lay hl
  have fd : ∀ {S}, Dfr S h g1 → (∀ k, ¬ S (a + 1) k) → TH g1 a nd gv tk := fun f ne => by
    obtain ⟨t1, t2, t3, t4, t5, t6, t7⟩ := t
    exact ⟨t1, (f.K _).trans t2, (f.K _).trans t3, (f.R _ _).trans t4, (f.I (ne _)).trans t5, (f.I (ne _)).trans t6, (f.I (ne _)).trans t7⟩
  have ta := t.1
  have t1 : TH g1 a nd gv tk := fd f1 (fun k z => by unfold SEv at z; omega)
  have wo := l1.wo (show ev + 1 < 31 by omega)
  simp only [f_Lo_addCall, cv_n (c := 6) (kk135 hl), e1, bd2, Option.bind_some]
  rcases (show k = 0 ∨ k = 1 ∨ k = 2 by omega) with rfl | rfl | rfl
  · obtain ⟨g2, e2, f2, w2⟩ := change_C l1 wo (by omega) w1 hn' hg ht t1
    simp only [show nI 0 = 0 from rfl, if_true, cv_n (c := 11) wo.1, e2, Option.bind_some]
    refine OK.mk ⟨f1.trans (f2.mono (fun a k z => Or.inr (Or.inl z))), w2.congr (fun w _ => ?_), ?_⟩
    · unfold stepK
      rw [if_pos (by decide)]
    · rw [f2.I (by unfold OnC; omega)]; exact v1
  · simp only [show ¬ (nI 1 = 0) by decide, show ¬ (nI 1 = 2) by decide, if_false]
    refine OK.mk ⟨f1, w1.congr (fun w _ => ?_), v1⟩
    unfold stepK
    rw [if_neg (by decide), if_pos (by decide)]
  · have wc := l1.wc
    obtain ⟨g2, e2, f2, w2⟩ := become_W wc wo w1
    have l2 := f2.lay l1
    have t2 := t1.d f2 (by decide)
    have wc2 := l2.wc
    obtain ⟨g3, e3, f3, w3⟩ := change_C l2 wc2 (by decide) w2 hn' hg ht t2
    have l3 := f3.lay l2
    have wo3 := l3.wo (show ev + 1 < 31 by omega)
    have w1' : WR g3 (140 + 2 * (ev + 1)) (wld h ev) := (w1.d f2 (fun k z => by unfold OnC at z; omega)).d f3 (fun k z => by unfold OnC at z; omega)
    obtain ⟨g4, e4, f4, w4⟩ := add_C wo3 l3.wc (show 138 ≠ 140 + 2 * (ev + 1) by omega) w1' w3
    rw [if_neg (show ¬ (nI 2 = 0) by decide), if_pos (show nI 2 = 2 from rfl)]
    simp only [gR_n (c := 6) (kk135 l1), LR l1, Option.bind_some, cv_n (c := 11) wc.1, e2, gR_n (c := 6) (kk135 l2), LR l2, cv_n (c := 11) wc2.1, e3, gR_n (c := 6) (kk135 l3), LR l3, cv_n (c := 11) wo3.1, e4]
    refine OK.mk ⟨((f1.trans (f2.mono (fun a k z => Or.inl z))).trans (f3.mono (fun a k z => Or.inl z))).trans (f4.mono (fun a k z => Or.inr (Or.inl z))), w4.congr (fun w _ => ?_), ?_⟩
    · unfold stepK
      rw [if_neg (by decide), if_neg (by decide), if_pos (by decide)]
    · rw [f4.I (by unfold OnC; omega), f3.I (by unfold OnC; omega), f2.I (by unfold OnC; omega)]; exact v1
theorem addSight_C (hl : Lay h) (rl : RLog h hn ev) (h30 : ev < 30) {f : Nat} (hf : f < 12) (b : Bool) (nd gv tk : Nat) : OK (f_Lo_addSight h 135 (nI f) (bI b)) (fun h' => Dfr (SEv ev) h h' ∧ WR h' (140 + 2 * (ev + 1)) (stepK (if b = true then 3 else 4) f nd gv tk (wld h ev)) ∧ hI h' 135 1 = nI (ev + 1)) := by
  obtain ⟨⟨r1, g1⟩, e1, q1, f1, w1, v1⟩ := addEvent_C hl rl h30
  dsimp only at q1 f1 w1 v1
  subst q1
  have l1 := f1.lay hl
  have wo := l1.wo (show ev + 1 < 31 by omega)
  obtain ⟨g2, e2, f2, w2⟩ := keep_C l1 wo w1 hf b
  simp only [f_Lo_addSight, cv_n (c := 6) (kk135 hl), e1, bd2, Option.bind_some, cv_n (c := 11) wo.1, e2]
  refine OK.mk ⟨f1.trans (f2.mono (fun a k z => Or.inr (Or.inl z))), w2.congr (fun w _ => ?_), ?_⟩
  · unfold stepK
    cases b with
    | true =>
      rw [if_pos rfl, if_neg (by decide), if_neg (by decide), if_neg (by decide), if_pos (by decide)]
      simp
    | false =>
      rw [if_neg (by decide), if_neg (by decide), if_neg (by decide), if_neg (by decide)]
      simp
  · rw [f2.I (by unfold OnC; omega)]; exact v1
/-- what the reference adds -/
theorem add_M (hl : Lay h) (h30 : ev < 30) (hv : hI h 201 18 = nI ev) (k s : Int32) : f_M_add h 201 k s = some (nI (ev + 1), uI (uI (uI h 212 ev k) 213 ev s) 201 18 (nI (ev + 1))) := by
  have hz : ¬ nI ev = 30 := fun q => absurd (nI_inj (b := 30) (by omega) (by decide) q) (by omega)
  have l1 : Lay (uI h 212 ev k) := hl.uI (by decide)
  have l2 : Lay (uI (uI h 212 ev k) 213 ev s) := l1.uI (by decide)
  have l3 : Lay (uI (uI (uI h 212 ev k) 213 ev s) 201 18 (nI (ev + 1))) := l2.uI (by decide)
  have v1 : hI (uI h 212 ev k) 201 18 = nI ev := by rw [hI_ne (by omega)]; exact hv
  have v2 : hI (uI (uI h 212 ev k) 213 ev s) 201 18 = nI ev := by rw [hI_ne (by omega)]; exact v1
  simp only [f_M_add, gI_n (kk201 hl), hv, hz, if_false, gR_n (kk201 hl), LR hl, Option.bind_some, wI_n (show 4 ≤ 212 by decide) (kk212 hl) h30 (by decide), gI_n (kk201 l1), gR_n (kk201 l1), LR l1, v1, wI_n (show 4 ≤ 213 by decide) (kk213 l1) h30 (by decide), gI_n (kk201 l2), pI_n (kk201 l2), v2, nI_1, gI_n (kk201 l3), hI_eq]
theorem log_more (rl : RLog h hn ev) (h30 : ev < 30) (f : Dfr (SEv ev) h g) (hv : hI g 135 1 = nI (ev + 1)) {k o : Nat} (ko : (k < 3 ∧ o < hn) ∨ ((k = 3 ∨ k = 4) ∧ o < 12))
    (w : WR g (140 + 2 * (ev + 1)) (stepK (nI k) o (hI h 206 o).toBitVec.toNat (hI h 207 o).toBitVec.toNat (hI h 208 o).toBitVec.toNat (wld h ev))) (h8 : hn ≤ 8) : RLog (uI (uI (uI g 212 ev (nI k)) 213 ev (nI o)) 201 18 (nI (ev + 1))) hn (ev + 1) ∧ Dfr SLog h (uI (uI (uI g 212 ev (nI k)) 213 ev (nI o)) 201 18 (nI (ev + 1))) := by
  obtain ⟨g3, e3⟩ : ∃ g3, g3 = uI (uI (uI g 212 ev (nI k)) 213 ev (nI o)) 201 18 (nI (ev + 1)) := ⟨_, rfl⟩
  rw [← e3]
  have fg : Dfr (fun a k => (a = 201 ∧ k = 18) ∨ (a = 212 ∧ k = ev) ∨ (a = 213 ∧ k = ev)) g g3 := by
    rw [e3]
    exact ((Dfr.uI (by decide) (by omega)).trans (Dfr.uI (by decide) (by omega))).trans (Dfr.uI (by decide) (by omega))
  have n1 : hI g3 212 ev = nI k := by rw [e3, hI_ne (by omega), hI_ne (by omega), hI_eq]
  have n2 : hI g3 213 ev = nI o := by rw [e3, hI_ne (by omega), hI_eq]
  have n3 : hI g3 201 18 = nI (ev + 1) := by rw [e3, hI_eq]
  have fI : ∀ a j, ¬ SEv ev a j → ¬ ((a = 201 ∧ j = 18) ∨ (a = 212 ∧ j = ev) ∨ (a = 213 ∧ j = ev)) → hI g3 a j = hI h a j := fun a j x y => by rw [fg.I y, f.I x]
  have we : ∀ t, t ≤ ev → wld g3 t = wld h t := fun t ht => wld_cong (fun e he => ⟨fI _ _ (by unfold SEv; omega) (by omega), fI _ _ (by unfold SEv; omega) (by omega)⟩) (fI _ _ (by unfold SEv; omega) (by omega)) (fun j => ⟨fI _ _ (by unfold SEv; omega) (by omega), fI _ _ (by unfold SEv; omega) (by omega), fI _ _ (by unfold SEv; omega) (by omega)⟩)
  have oo : ofN g3 ev = o := by unfold ofN; rw [n2, cl_nI (by omega)]
  obtain ⟨r1, r2, r3, r4, r5, r6⟩ := rl
  refine ⟨⟨by omega, ?_, n3, ?_, fun e he => ?_, fun t ht x hx => ?_⟩, ?_⟩
  · rw [fg.I (by omega)]; exact hv
  · rw [fI _ _ (by unfold SEv; omega) (by omega)]; exact r4
  · by_cases q : e = ev
    · subst q; exact ⟨k, o, n1, n2, ko⟩
    · rw [fI 212 e (by unfold SEv; omega) (by omega), fI 213 e (by unfold SEv; omega) (by omega)]; exact r5 e (by omega)
  · rw [fg.J (by omega)]
    by_cases q : t = ev + 1
    · subst q
      rw [w.w hx]
      show _ = stepW g3 ev (wld g3 ev) x
      rw [we ev (Nat.le_refl _)]
      unfold stepW
      rw [oo, n1, fI 206 o (by unfold SEv; omega) (by omega), fI 207 o (by unfold SEv; omega) (by omega), fI 208 o (by unfold SEv; omega) (by omega)]
    · rw [we t (by omega), f.J (by unfold SEv; omega)]
      exact r6 t (by omega) x hx
  · refine (f.mono (fun a j z => ?_)).trans (fg.mono (fun a j z => ?_))
    · unfold SEv at z; unfold SLog; omega
    · unfold SLog; omega
theorem o_begin (hl : Lay h) (rl : RLog h hn ev) (x : Int32) : ∃ r h1 h2, f_C_begin h 4 x = some (r, h1) ∧ f_M_begin h1 201 x = some (r, h2) ∧ (∃ ev', RLog h2 hn ev') ∧ Dfr SLog h h2 := by
  rcases ix_cases x (n := 4096) (by decide) with ⟨j, hj, rfl⟩ | h0 | ⟨h0, h1⟩
  · have f0 : Dfr SLog h (uI h 135 1 0) := Dfr.uI (by decide) (Or.inl ⟨rfl, rfl⟩)
    have l0 := f0.lay hl
    have wo := l0.wo (show 0 < 31 by decide)
    obtain ⟨g, e, f, w⟩ := only_W wo hj
    have l1 := f.lay l0
    have l2 : Lay (uI g 201 17 (nI j)) := l1.uI (by decide)
    refine ⟨1, g, uI (uI g 201 17 (nI j)) 201 18 0, ?_, ?_, ⟨0, by omega, ?_, ?_, ⟨j, hj, ?_⟩, fun e he => absurd he (by omega), fun t ht y hy => ?_⟩, ?_⟩
    · have e0 : rR 11 (uI h 135 1 0) 136 (0 : Int32) = some (some (139 + 2 * 0)) := by
        have := rR_n (c := 11) (j := 0) (kk136 l0) (by decide) (by decide)
        rw [(l0.wrld (show 0 < 31 by decide)).2.2.1] at this
        exact this
      simp only [f_C_begin, isFacts_C, nI_n0 j (by omega), if_false, nI_lt hj (by decide), if_true, Option.bind_some, show ¬ ((1 : Int32) = 0) by decide, gR_n (kk4 hl), LR hl, cv_n (c := 6) (kk135 hl), f_Lo_startWith, pI_n (c := 6) (kk135 hl), gR_n (c := 6) (kk135 l0), LR l0, e0, cv_n (c := 11) wo.1, e]
    · simp only [f_M_begin, isSet_M, nI_n0 j (by omega), if_false, nI_lt hj (by decide), if_true, Option.bind_some, show ¬ ((1 : Int32) = 0) by decide, pI_n (kk201 l1), pI_n (kk201 l2)]
    · rw [hI_ne (by omega), hI_ne (by omega), f.I (by unfold OnC; omega), hI_eq]; rfl
    · rw [hI_eq]; rfl
    · rw [hI_ne (by omega), hI_eq]
    · have t0 : t = 0 := by omega
      subst t0
      show (hJ g (140 + 2 * 0) (y / 64)).toBitVec.getLsbD (y % 64) = decide (hI (uI (uI g 201 17 (nI j)) 201 18 0) 201 17 = nI y)
      rw [w.w hy, hI_ne (by omega), hI_eq]
      apply decide_eq_decide.mpr
      constructor
      · intro q; rw [q]
      · intro q; exact (nI_inj (by omega) (by omega) q).symm
    · exact ((f0.trans (f.mono (fun a k z => by unfold OnC at z; unfold SLog; omega))).trans (Dfr.uI (by decide) (by unfold SLog; omega))).trans (Dfr.uI (by decide) (by unfold SLog; omega))
  · refine ⟨-102, h, h, ?_, ?_, ⟨ev, rl⟩, Dfr.refl⟩
    · simp [f_C_begin, isFacts_C, h0]
    · simp [f_M_begin, isSet_M, h0]
  · refine ⟨-102, h, h, ?_, ?_, ⟨ev, rl⟩, Dfr.refl⟩
    · simp [f_C_begin, isFacts_C, h0, h1]
    · simp [f_M_begin, isSet_M, h0, h1]
theorem add_full (hl : Lay h) (hv : hI h 201 18 = nI 30) (k s : Int32) : f_M_add h 201 k s = some (-104, h) := by
  simp only [f_M_add, gI_n (kk201 hl), hv, Option.bind_some, show nI 30 = 30 from rfl, if_true]
theorem o_call (hl : Lay h) (rh : RHelp h hn ha) (rl : RLog h hn ev) (x y : Int32) : ∃ r h1 h2, f_C_call h 4 x y = some (r, h1) ∧ f_M_call h1 201 x y = some (r, h2) ∧ (∃ ev', RLog h2 hn ev') ∧ Dfr SLog h h2 := by
  have h8 := rh.1
  by_cases hx : ∃ s, s < hn ∧ x = nI s
  · obtain ⟨s, hs, rfl⟩ := hx
    obtain ⟨tC, tM⟩ := (helpC hl rh).1 s hs
    rcases ix_cases y (n := 3) (by decide) with ⟨k, hk, rfl⟩ | h0 | ⟨h0, h1⟩
    · have n2 : ¬ (2 : Int32) < nI k := nI_nlt (a := 2) (by omega) (by decide)
      have iM : ∀ g, f_M_in g (nI k) (0 : Int32) (2 : Int32) = some 1 := fun g => by
        have := in_Mk g (nI k) (n := 2) (by decide)
        rw [if_neg (nI_n0 k (by omega)), if_pos (nI_lt (b := 3) hk (by decide))] at this
        exact this
      by_cases h30 : ev < 30
      · obtain ⟨nd, gv, tk, a1, a2, a3, b1, b2, b3, t⟩ := (rh.2.2.2 s hs).2.th
        obtain ⟨g, e, f, w, v⟩ := addCall_C (s := s) hl rl h30 a1 a2 a3 t hk
        have lg := f.lay hl
        have rhg : RHelp g hn ha := rh.ag hl.2.2.2.2.2.2 (f.fr.ag (by unfold FHelp SEv; omega))
        have w' : WR g (140 + 2 * (ev + 1)) (stepK (nI k) s (hI h 206 s).toBitVec.toNat (hI h 207 s).toBitVec.toNat (hI h 208 s).toBitVec.toNat (wld h ev)) := by
          rw [b1, b2, b3, nI_toNat (by omega), nI_toNat (by omega), nI_toNat (by omega)]; exact w
        obtain ⟨m1, m2⟩ := log_more rl h30 f v (Or.inl ⟨hk, hs⟩) w' h8
        refine ⟨nI (ev + 1), g, _, ?_, ?_, ⟨ev + 1, m1⟩, m2⟩
        · have q30 : nI ev < 30 := nI_lt (b := 30) h30 (by decide)
          simp only [f_C_call, gR_n (kk4 hl), LR hl, cv_n (c := 8) (kk107 hl), tC, Option.bind_some, onl, nI_n0 k (by omega), n2, if_false, gI_n (c := 6) (kk135 hl), rl.2.1, q30, if_true, cv_n (c := 6) (kk135 hl), e, gR_n (kk4 lg), LR lg, gI_n (c := 6) (kk135 lg), v]
        · have ha' := add_M lg h30 (show hI g 201 18 = nI ev by rw [f.I (by unfold SEv; omega)]; exact rl.2.2.1) (nI k) (nI s)
          simp only [f_M_call, cv_n (kk201 lg), ((helpC lg rhg).1 s hs).2, Option.bind_some, show ¬ ((1 : Int32) = 0) by decide, if_false, iM, ha', bd2]
      · have e30 : ev = 30 := by have := rl.1; omega
        subst e30
        refine ⟨-104, h, h, ?_, ?_, ⟨30, rl⟩, Dfr.refl⟩
        · simp only [f_C_call, gR_n (kk4 hl), LR hl, cv_n (c := 8) (kk107 hl), tC, Option.bind_some, onl, nI_n0 k (by omega), n2, if_false, gI_n (c := 6) (kk135 hl), rl.2.1, show ¬ nI 30 < 30 by decide]
        · simp only [f_M_call, cv_n (kk201 hl), tM, Option.bind_some, show ¬ ((1 : Int32) = 0) by decide, if_false, iM, add_full hl rl.2.2.1, bd2]
    · refine ⟨-102, h, h, ?_, ?_, ⟨ev, rl⟩, Dfr.refl⟩
      · simp only [f_C_call, gR_n (kk4 hl), LR hl, cv_n (c := 8) (kk107 hl), tC, Option.bind_some, onl, h0, if_true]
      · simp only [f_M_call, cv_n (kk201 hl), tM, Option.bind_some, show ¬ ((1 : Int32) = 0) by decide, if_false, in_M, h0, if_true]
    · have n2 : (2 : Int32) < y := (lt_nI (n := 2) (by decide) y).mpr h1
      refine ⟨-102, h, h, ?_, ?_, ⟨ev, rl⟩, Dfr.refl⟩
      · simp only [f_C_call, gR_n (kk4 hl), LR hl, cv_n (c := 8) (kk107 hl), tC, Option.bind_some, onl, h0, n2, if_true, if_false]
      · simp only [f_M_call, cv_n (kk201 hl), tM, Option.bind_some, show ¬ ((1 : Int32) = 0) by decide, if_false, in_M, h0, n2, if_true]
  · obtain ⟨e1, e2⟩ := (helpC hl rh).2 x hx
    refine ⟨-101, h, h, ?_, ?_, ⟨ev, rl⟩, Dfr.refl⟩
    · simp only [f_C_call, gR_n (kk4 hl), LR hl, cv_n (c := 8) (kk107 hl), e1, Option.bind_some, onl]
    · simp only [f_M_call, cv_n (kk201 hl), e2, Option.bind_some, if_true]
theorem o_see (hl : Lay h) (h8 : hn ≤ 8) (rl : RLog h hn ev) (x : Int32) (b : Bool) : ∃ r h1 h2, f_C_see h 4 x (bI b) = some (r, h1) ∧ f_M_see h1 201 x (bI b) = some (r, h2) ∧ (∃ ev', RLog h2 hn ev') ∧ Dfr SLog h h2 := by
  have iC : f_C_isFact h x = some (if x < 0 then 0 else if x < 12 then 1 else 0) := by
    unfold f_C_isFact
    split
    · rfl
    · split <;> rfl
  have iM : ∀ g, f_M_in g x (0 : Int32) (11 : Int32) = some (if x < 0 then 0 else if x < 12 then 1 else 0) := fun g => in_Mk g x (n := 11) (by decide)
  rcases ix_cases x (n := 12) (by decide) with ⟨j, hj, rfl⟩ | h0 | ⟨h0, h1⟩
  · have qj : nI j < 12 := nI_lt (b := 12) hj (by decide)
    have ek : ((if bI b = (0 : Int32) then some (4 : Int32) else some (3 : Int32)) : Option Int32) = some (nI (if b = true then 3 else 4)) := by cases b <;> rfl
    by_cases h30 : ev < 30
    · obtain ⟨g, e, f, w, v⟩ := addSight_C hl rl h30 hj b (hI h 206 j).toBitVec.toNat (hI h 207 j).toBitVec.toNat (hI h 208 j).toBitVec.toNat
      have lg := f.lay hl
      have w' : WR g (140 + 2 * (ev + 1)) (stepK (nI (if b = true then 3 else 4)) j (hI h 206 j).toBitVec.toNat (hI h 207 j).toBitVec.toNat (hI h 208 j).toBitVec.toNat (wld h ev)) := by
        cases b <;> exact w
      obtain ⟨m1, m2⟩ := log_more rl h30 f v (Or.inr ⟨by cases b <;> simp, hj⟩) w' h8
      refine ⟨nI (ev + 1), g, _, ?_, ?_, ⟨ev + 1, m1⟩, m2⟩
      · have q30 : nI ev < 30 := nI_lt (b := 30) h30 (by decide)
        simp only [f_C_see, iC, nI_n0 j (by omega), qj, if_true, if_false, Option.bind_some, show ¬ ((1 : Int32) = 0) by decide, gR_n (kk4 hl), LR hl, gI_n (c := 6) (kk135 hl), rl.2.1, q30, cv_n (c := 6) (kk135 hl), e, gR_n (kk4 lg), LR lg, gI_n (c := 6) (kk135 lg), v]
      · have ha' := add_M lg h30 (show hI g 201 18 = nI ev by rw [f.I (by unfold SEv; omega)]; exact rl.2.2.1) (nI (if b = true then 3 else 4)) (nI j)
        simp only [f_M_see, iM, nI_n0 j (by omega), qj, if_true, if_false, Option.bind_some, show ¬ ((1 : Int32) = 0) by decide, ek, cv_n (kk201 lg), ha', bd2]
    · have e30 : ev = 30 := by have := rl.1; omega
      subst e30
      refine ⟨-104, h, h, ?_, ?_, ⟨30, rl⟩, Dfr.refl⟩
      · simp only [f_C_see, iC, nI_n0 j (by omega), qj, if_true, if_false, Option.bind_some, show ¬ ((1 : Int32) = 0) by decide, gR_n (kk4 hl), LR hl, gI_n (c := 6) (kk135 hl), rl.2.1, show ¬ nI 30 < 30 by decide]
      · simp only [f_M_see, iM, nI_n0 j (by omega), qj, if_true, if_false, Option.bind_some, show ¬ ((1 : Int32) = 0) by decide, ek, cv_n (kk201 hl), add_full hl rl.2.2.1, bd2]
  · refine ⟨-101, h, h, ?_, ?_, ⟨ev, rl⟩, Dfr.refl⟩
    · simp only [f_C_see, iC, h0, if_true, Option.bind_some]
    · simp only [f_M_see, iM, h0, if_true, Option.bind_some]
  · have h1' : ¬ x < 12 := h1
    refine ⟨-101, h, h, ?_, ?_, ⟨ev, rl⟩, Dfr.refl⟩
    · simp only [f_C_see, iC, h0, h1', if_false, Option.bind_some, if_true]
    · simp only [f_M_see, iM, h0, h1', if_false, Option.bind_some, if_true]
end LG
