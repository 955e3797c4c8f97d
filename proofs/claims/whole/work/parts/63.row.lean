/-! ROWS: stops, after, taint, costs -/
def cnt (r : Nat → Nat) (s : Nat) : Nat → Nat
  | 0 => 0
  | i + 1 => cnt r s i + (if r i = s then 1 else 0)
def run (h0 : AH) (r : Nat → Nat) (F : Int32) : Nat → WS
  | 0 => (F, hI h0 210)
  | i + 1 => stp h0 (r i) (run h0 r F i)
def stopP (h0 : AH) (r : Nat → Nat) (F : Int32) (i : Nat) : Bool := !(decide (nI (cnt r (r i) i) < hI h0 209 (5 * r i + 2)) && okS h0 (r i) (run h0 r F i))
theorem cnt_le (r : Nat → Nat) (s : Nat) : ∀ i, cnt r s i ≤ i
  | 0 => Nat.le_refl _
  | i + 1 => by have := cnt_le r s i; unfold cnt; split <;> omega
section RW
variable {h0 g : AH} {hn rn : Nat} {ha : Nat → Nat} {b s : Nat} {W : WS} {tm : Nat → Nat}
theorem become_C {b' : Nat} (hl : Lay g) (hb : GoB b) (hb' : GoB b') (ne : b ≠ b') (G : GRel b' g W tm) : OK (f_Go_become g b (some b')) (fun g' => Dfr (ScB b) g g' ∧ GRel b g' W tm) := by
  obtain ⟨⟨k1, k2, k3⟩, ⟨r1, r2⟩, b1, b2⟩ := hb.facts hl
  obtain ⟨⟨k1', k2', k3'⟩, ⟨r1', r2'⟩, b1', b2'⟩ := hb'.facts hl
  have sep : b + 3 ≤ b' ∨ b' + 3 ≤ b := by
    rcases hb with rfl | ⟨i, hi, rfl⟩ <;> rcases hb' with rfl | ⟨j, hj, rfl⟩ <;> omega
  obtain ⟨g1, eg1⟩ : ∃ g1, g1 = uI g b 0 W.1 := ⟨_, rfl⟩
  have f1 : Dfr (ScB b) g g1 := by rw [eg1]; exact Dfr.uI (by omega) ⟨by omega, by omega⟩
  obtain ⟨g2, e2, f2, v2⟩ := copyI (h := g1) (a := b' + 1) (b := b + 1) (n := 12) (by omega) (by omega) ((f1.K _).trans k2') ((f1.K _).trans k2) (by omega) (by omega) (by decide)
  have f2' : Dfr (ScB b) g1 g2 := f2.mono (fun a k z => ⟨by omega, by omega⟩)
  have f12 := f1.trans f2'
  obtain ⟨g3, e3, f3, v3⟩ := copyI (h := g2) (a := b' + 2) (b := b + 2) (n := 8) (by omega) (by omega) ((f12.K _).trans k3') ((f12.K _).trans k3) (by omega) (by omega) (by decide)
  have f3' : Dfr (ScB b) g2 g3 := f3.mono (fun a k z => ⟨by omega, by omega⟩)
  refine OK.eq (a := g3) ?_ ⟨f12.trans f3', ?_, fun x hx => ?_, fun x hx => ?_⟩
  · have w1 : pI 3 g b 0 W.1 = some g1 := by rw [eg1]; exact pI_n (c := 3) k1
    have q1 : hK g1 b = (100 + 3, 0) := (f1.K _).trans k1
    have q2 : hK g1 b' = (100 + 3, 0) := (f1.K _).trans k1'
    have q3 : hK g2 b = (100 + 3, 0) := (f12.K _).trans k1
    have q4 : hK g2 b' = (100 + 3, 0) := (f12.K _).trans k1'
    simp only [f_Go_become, Option.bind_some, gI_n (c := 3) k1', G.1, w1, gR_n q1, gR_n q2, f1.R, r1, r1', show (12 : Int32) = nI 12 from rfl, e2, gR_n q3, gR_n q4, f12.R, r2, r2', show (8 : Int32) = nI 8 from rfl, e3]
  · rw [f3.I (by omega), f2.I (by omega), eg1]; exact hI_eq
  · rw [f3.I (by omega), v2 x hx, f1.I (by unfold ScB; omega)]; exact G.2.1 x hx
  · rw [v3 x hx, f12.I (by unfold ScB; omega)]; exact G.2.2 x hx
theorem start_C (hl : Lay h0) (rl : RLev h0) (f : Dfr ScG h0 g) (F : Int32) : OK (f_Go_startWith g 117 F (some 109)) (fun g' => Dfr (ScB 117) g g' ∧ GRel 117 g' (F, hI h0 210) (fun _ => 0)) := by
  have lg := f.lay hl
  obtain ⟨⟨k1, k2, k3⟩, ⟨r1, r2⟩, b1, b2⟩ := GoB.facts lg (Or.inr ⟨0, by decide, rfl⟩ : GoB 117)
  obtain ⟨g1, eg1⟩ : ∃ g1, g1 = uI g 117 0 F := ⟨_, rfl⟩
  have f1 : Dfr (ScB 117) g g1 := by rw [eg1]; exact Dfr.uI (by omega) ⟨by omega, by omega⟩
  obtain ⟨g2, e2, f2, v2⟩ := copyI (h := g1) (a := 109) (b := 117 + 1) (n := 12) (by omega) (by omega) ((f1.K _).trans (kk109 lg)) ((f1.K _).trans k2) (by omega) (by omega) (by decide)
  have f2' : Dfr (ScB 117) g1 g2 := f2.mono (fun a k z => ⟨by omega, by omega⟩)
  have f12 := f1.trans f2'
  obtain ⟨g3, e3, f3, v3⟩ := fillI (h := g2) (117 + 2) 0 (by omega) ((f12.K _).trans k3) (by decide)
  have f3' : Dfr (ScB 117) g2 g3 := f3.mono (fun a k z => ⟨by omega, by omega⟩)
  refine OK.eq (a := g3) ?_ ⟨f12.trans f3', ?_, fun x hx => ?_, fun x hx => ?_⟩
  · have w1 : pI 3 g 117 0 F = some g1 := by rw [eg1]; exact pI_n (c := 3) k1
    have q1 : hK g1 117 = (100 + 3, 0) := (f1.K _).trans k1
    have q3 : hK g2 117 = (100 + 3, 0) := (f12.K _).trans k1
    simp only [f_Go_startWith, Option.bind_some, w1, gR_n q1, f1.R, r1, show (12 : Int32) = nI 12 from rfl, e2, gR_n q3, f12.R, r2, e3]
  · rw [f3.I (by omega), f2.I (by omega), eg1]; exact hI_eq
  · rw [f3.I (by omega), v2 x hx, f1.I (by unfold ScB; omega), (sc_lev hl rl f x hx).1, sc_static f (by omega)]
  · rw [v3 x hx]; rfl
theorem start_M (hl : Lay h0) (f : Dfr ScG h0 g) (F : Int32) : OK (f_M_start g 201 F) (fun g' => Dfr ScM g g' ∧ MRel g' (F, hI h0 210)) := by
  have lg := f.lay hl
  obtain ⟨g1, eg1⟩ : ∃ g1, g1 = uI g 201 51 F := ⟨_, rfl⟩
  have f1 : Dfr ScM g g1 := by rw [eg1]; exact Dfr.uI (by omega) (Or.inl ⟨rfl, rfl⟩)
  have l1 := f1.lay lg
  have main : ∀ n (x : Nat × AH), (x.1 ≤ 12 ∧ Dfr (fun a _ => a = 232) g1 x.2 ∧ ∀ f, f < x.1 → hI x.2 232 f = hI h0 210 f) → 12 - x.1 < n → OK (f_M_start_L7 201 n (nI x.1) x.2) (fun g' => Dfr (fun a _ => a = 232) g1 g' ∧ ∀ f, f < 12 → hI g' 232 f = hI h0 210 f) := by
    refine loopU (fun n (x : Nat × AH) => f_M_start_L7 201 n (nI x.1) x.2) _ (fun x => 12 - x.1) _ ?_
    intro n x ⟨h1, h2, h3⟩ ih
    obtain ⟨i, e⟩ := x
    dsimp only at h1 h2 h3 ih ⊢
    by_cases q : i < 12
    · have l8 : nI i < 12 := nI_lt (b := 12) q (by decide)
      have le := h2.lay l1
      have v1 : rI 1 e 210 (nI i) = some (hI h0 210 i) := by rw [rI_n (kk210 le) q (by decide), h2.I (by omega), f1.I (by unfold ScM; omega), sc_static f (by omega)]
      have := ih (i + 1, uI e 232 i (hI h0 210 i)) ⟨by dsimp only; omega, h2.trans (Dfr.uI (by omega) rfl), fun f hf => ?_⟩ (by dsimp only; omega)
      · simp only [f_M_start_L7, l8, if_true, gR_n (kk201 le), LR le, Option.bind_some, v1, wI_n (show 4 ≤ 232 by decide) (kk232 le) q (by decide), nI_1]
        exact this
      · dsimp only at hf ⊢
        by_cases e1 : f = i
        · subst e1; exact hI_eq
        · rw [hI_ne (by omega)]; exact h3 f (by omega)
    · have : i = 12 := by omega
      subst this
      exact OK.eq (a := e) (by simp only [f_M_start_L7, show ¬ nI 12 < 12 by decide, if_false]) ⟨h2, h3⟩
  obtain ⟨g2, e2, f2, v2⟩ := main FU (0, g1) ⟨by simp, Dfr.refl, fun f hf => absurd hf (by simp)⟩ (by show 12 - 0 < FU; decide)
  refine OK.eq (a := g2) ?_ ⟨f1.trans (f2.mono (fun a k z => Or.inr z)), ?_, v2⟩
  · simp only [f_M_start, pI_n (kk201 lg), Option.bind_some]
    rw [← eg1]; exact e2
  · rw [f2.I (by omega), eg1]; exact hI_eq
theorem goOn_C (hl : Lay h0) (rh : RHelp h0 hn ha) (rl : RLev h0) (f : Dfr ScG h0 g) (hs : s < hn) {i : Nat} (hi : i < 5) (G : GRel (117 + 3 * i) g W tm) : OK (f_Ro_goOn g 107 (nI i) (nI s)) (fun g' => Dfr (ScB (117 + 3 * (i + 1))) g g' ∧ GRel (117 + 3 * (i + 1)) g' (stp h0 s W) (fun x => if x = s then tm x + 1 else tm x)) := by
  have lg := f.lay hl
  have h8 := rh.1
  have B0 : GoB (117 + 3 * i) := Or.inr ⟨i, by omega, rfl⟩
  have B1 : GoB (117 + 3 * (i + 1)) := Or.inr ⟨i + 1, by omega, rfl⟩
  obtain ⟨g1, e1, f1, G1⟩ := become_C lg B1 B0 (by omega) G
  have f1' : Dfr ScG g g1 := f1.mono (fun a k z => by unfold ScB at z; unfold ScG; omega)
  have f01 := f.trans f1'
  have l1 := f01.lay hl
  obtain ⟨g2, e2, f2, G2⟩ := go_C hl rh rl f01 hs B1 G1
  refine OK.eq (a := g2) ?_ ⟨f1.trans f2, G2⟩
  obtain ⟨a1, a2, a3, a4, a5, a6⟩ := lg.going (i := i) (by omega)
  obtain ⟨c1, c2, c3, c4, c5, c6⟩ := lg.going (i := i + 1) (by omega)
  obtain ⟨d1, d2, d3, d4, d5, d6⟩ := l1.going (i := i + 1) (by omega)
  have H := (sc_help hl rh f01).2.2.2 s hs
  simp only [f_Ro_goOn, gR_n (c := 8) (kk107 lg), LR lg, Option.bind_some, nI_1, rR_n (c := 3) (kk111 lg) (show i + 1 < 6 by omega) (by decide), rR_n (c := 3) (kk111 lg) (show i < 6 by omega) (by decide), a4, c4, cv_n (c := 3) c1, e1, gR_n (c := 8) (kk107 l1), LR l1, rR_n (c := 3) (kk111 l1) (show i + 1 < 6 by omega) (by decide), d4, rR_n (c := 4) (kk108 l1) (show s < 8 by omega) (by decide), H.1, cv_n (c := 3) d1, e2]
/-- the row as both hold it -/
theorem rowAt_C (hl : Lay g) (rh : RHelp g hn ha) (rr : RRow g hn rn) {i : Nat} (hi : i < rn) : ∃ s, s < hn ∧ hI g 211 i = nI s ∧ rI 1 g 110 (nI i) = some (nI s) ∧ f_Ro_helperAt g 107 (nI i) = some (some (ha s)) := by
  obtain ⟨e1, s, hs, e2⟩ := rr.2.2.2 i hi
  have h5 := rr.1
  have h8 := rh.1
  have e3 : rI 1 g 110 (nI i) = some (nI s) := by rw [rI_n (kk110 hl) (by omega) (by decide), e1, e2]
  refine ⟨s, hs, e2, e3, ?_⟩
  simp only [f_Ro_helperAt, gR_n (c := 8) (kk107 hl), LR hl, Option.bind_some, e3, rR_n (c := 4) (kk108 hl) (show s < 8 by omega) (by decide), (rh.2.2.2 s hs).1]
def rowN (h0 : AH) (i : Nat) : Nat := (hI h0 211 i).toNatClampNeg
theorem rowN_at (rr : RRow h0 hn rn) (rh : RHelp h0 hn ha) {i : Nat} (hi : i < rn) : rowN h0 i < hn ∧ hI h0 211 i = nI (rowN h0 i) := by
  obtain ⟨e1, s, hs, e2⟩ := rr.2.2.2 i hi
  have h8 := rh.1
  unfold rowN
  rw [e2, cl_nI (by omega)]
  exact ⟨hs, rfl⟩
theorem tm_cnt (r : Nat → Nat) (i : Nat) : (fun x => if x = r i then cnt r x i + 1 else cnt r x i) = fun x => cnt r x (i + 1) := by
  funext x
  show _ = cnt r x i + (if r i = x then 1 else 0)
  by_cases e : x = r i
  · rw [if_pos e, if_pos e.symm]
  · rw [if_neg e, if_neg (fun z => e z.symm)]; rfl
/-- going along the row of the class -/
theorem stop_C (hl : Lay h0) (rh : RHelp h0 hn ha) (rl : RLev h0) (rr : RRow h0 hn rn) (F : Int32) : OK (f_Ro_firstStop h0 107 F) (fun q => Dfr ScG h0 q.2 ∧ ((q.1 = -1 ∧ (∀ j, j < rn → stopP h0 (rowN h0) F j = false) ∧ ∀ i, i ≤ rn → GRel (117 + 3 * i) q.2 (run h0 (rowN h0) F i) (fun x => cnt (rowN h0) x i)) ∨ ∃ i, i < rn ∧ q.1 = nI i ∧ stopP h0 (rowN h0) F i = true ∧ ∀ j, j < i → stopP h0 (rowN h0) F j = false)) := by
  have h5 := rr.1
  obtain ⟨g1, e1, f1, G1⟩ := start_C hl rl Dfr.refl F
  have f1' : Dfr ScG h0 g1 := f1.mono (fun a k z => by unfold ScB at z; unfold ScG; omega)
  obtain ⟨a1, a2, a3, a4, a5, a6⟩ := hl.going (i := 0) (by omega)
  simp only [f_Ro_firstStop, gR_n (c := 8) (kk107 hl), LR hl, Option.bind_some, show rR 3 h0 111 0 = some (hR h0 111 0) from rR_n (c := 3) (kk111 hl) (show 0 < 6 by omega) (by decide), a4, cv_n (c := 3) a1, e1]
  refine loopU (fun n (x : Nat × AH) => f_Ro_firstStop_L16 107 n (nI x.1) x.2) (fun x => x.1 ≤ rn ∧ Dfr ScG h0 x.2 ∧ (∀ j, j < x.1 → stopP h0 (rowN h0) F j = false) ∧ ∀ i, i ≤ x.1 → GRel (117 + 3 * i) x.2 (run h0 (rowN h0) F i) (fun y => cnt (rowN h0) y i)) (fun x => rn - x.1) _ ?_ FU (0, g1) ⟨by simp, f1', fun j hj => absurd hj (by simp), fun i hi => ?_⟩ (by show rn - 0 < FU; unfold FU; omega)
  · intro n x ⟨i1, i2, i3, i4⟩ ih
    obtain ⟨i, e⟩ := x
    dsimp only at i1 i2 i3 i4 ih ⊢
    have le := i2.lay hl
    have rhe := sc_help hl rh i2
    have rre : RRow e hn rn := rr.ag hl.2.2.2.2.2.2 (i2.fr.ag (by unfold FRow ScG; omega))
    by_cases q : i < rn
    · obtain ⟨s, hs, s1, s2, s3⟩ := rowAt_C le rhe rre q
      obtain ⟨w1, w2⟩ := rowN_at rr rh q
      have es : s = rowN h0 i := nI_inj (by have := rh.1; omega) (by have := rh.1; omega) (by rw [← s1, i2.I (by unfold ScG; omega)]; exact w2)
      subst es
      obtain ⟨c1, c2, c3, c4, c5, c6⟩ := le.going (i := i) (by omega)
      have m1 := may_C' hl rh i2 w1 (Or.inr ⟨i, by omega, rfl⟩ : GoB (117 + 3 * i)) (i4 i (Nat.le_refl _))
      have l1 : nI i < nI rn := nI_lt q (by omega)
      simp only [f_Ro_firstStop_L16, gI_n (c := 8) (kk107 le), rre.2.1, Option.bind_some, l1, if_true, gR_n (c := 8) (kk107 le), LR le, rR_n (c := 3) (kk111 le) (show i < 6 by omega) (by decide), c4, cv_n (c := 8) (kk107 le), s3, s2, cv_n (c := 3) c1, m1]
      cases hq : (decide (nI (cnt (rowN h0) (rowN h0 i) i) < hI h0 209 (5 * rowN h0 i + 2)) && okS h0 (rowN h0 i) (run h0 (rowN h0) F i)) with
      | false =>
        simp only [bI, Bool.false_eq_true, if_false, if_true]
        exact OK.mk ⟨i2, Or.inr ⟨i, q, rfl, by unfold stopP; rw [hq]; rfl, i3⟩⟩
      | true =>
        simp only [bI, if_true, show ¬ ((1 : Int32) = 0) by decide, if_false]
        obtain ⟨g2, e2, f2, G2⟩ := goOn_C hl rh rl i2 w1 (show i < 5 by omega) (i4 i (Nat.le_refl _))
        have f2' : Dfr ScG e g2 := f2.mono (fun a k z => by unfold ScB at z; unfold ScG; omega)
        simp only [e2, Option.bind_some, nI_1]
        refine ih (i + 1, g2) ⟨by dsimp only; omega, i2.trans f2', fun j hj => ?_, fun j hj => ?_⟩ (by dsimp only; omega)
        · dsimp only at hj
          by_cases ej : j = i
          · subst ej; unfold stopP; rw [hq]; rfl
          · exact i3 j (by omega)
        · dsimp only at hj ⊢
          by_cases ej : j = i + 1
          · subst ej
            rw [← tm_cnt]
            exact G2
          · obtain ⟨y1, y2, y3⟩ := i4 j (by omega)
            refine ⟨?_, fun x hx => ?_, fun x hx => ?_⟩
            · rw [f2.I (by unfold ScB; omega)]; exact y1
            · rw [f2.I (by unfold ScB; omega)]; exact y2 x hx
            · rw [f2.I (by unfold ScB; omega)]; exact y3 x hx
    · have : i = rn := by omega
      subst this
      refine OK.eq (a := (-1, e)) ?_ ⟨i2, Or.inl ⟨rfl, i3, i4⟩⟩
      simp only [f_Ro_firstStop_L16, gI_n (c := 8) (kk107 le), rre.2.1, Option.bind_some, if_neg (show ¬ nI i < nI i from nI_nlt (Nat.le_refl _) (by omega))]
  · have : i = 0 := by dsimp only at hi; omega
    subst this
    exact G1
/-- how often a place's helper stands before it -/
theorem often_M {arr : Nat} {r : Nat → Nat} {n0 : Nat} (hk : hK g arr = (1, 5)) (h8 : ∀ i, i < n0 → r i < 8 ∧ hI g arr i = nI (r i)) (h5 : n0 ≤ 5) (F : Int32) {i : Nat} (hi : i < n0) {ρ : Type} (k : Int32 → Option ρ) : f_M_walkRow_L20 g 201 (some arr) F (nI i) k FU 0 0 = k (nI (cnt r (r i) i)) := by
  have main : ∀ d j n, j + d = i → d < n → f_M_walkRow_L20 g 201 (some arr) F (nI i) k n (nI (cnt r (r i) j)) (nI j) = k (nI (cnt r (r i) i)) := by
    intro d
    induction d with
    | zero =>
      intro j n hj hn
      obtain ⟨n, rfl⟩ : ∃ q, n = q + 1 := ⟨n - 1, by omega⟩
      have : j = i := by omega
      subst this
      simp only [f_M_walkRow_L20, if_neg (show ¬ nI j < nI j from nI_nlt (Nat.le_refl _) (by omega))]
    | succ d ih =>
      intro j n hj hn
      obtain ⟨n, rfl⟩ : ∃ q, n = q + 1 := ⟨n - 1, by omega⟩
      rw [← ih (j + 1) n (by omega) (by omega)]
      have l1 : nI j < nI i := nI_lt (by omega) (by omega)
      have e1 := h8 j (by omega)
      have e2 := h8 i (by omega)
      simp only [f_M_walkRow_L20, l1, if_true, Option.bind_some, rI_n hk (show j < 5 by omega) (by decide), rI_n hk (show i < 5 by omega) (by decide), e1.2, e2.2, nI_1, cnt]
      by_cases q : r j = r i
      · rw [if_pos (by rw [q]), if_pos q]
        simp only [Option.bind_some, nI_1]
      · rw [if_neg (fun z => q (nI_inj (by omega) (by omega) z)), if_neg q]
        simp
  exact main i 0 FU (by omega) (by unfold FU; omega)
theorem walk_M {arr : Nat} {r : Nat → Nat} {n0 : Nat} (hl : Lay h0) (f0 : Dfr ScG h0 g) (hk : hK h0 arr = (1, 5)) (ha4 : 135 ≤ arr ∧ ¬ arr = 201 ∧ ¬ arr = 232) (h8 : ∀ i, i < n0 → r i < 8 ∧ hI g arr i = nI (r i)) (h5 : n0 ≤ 5) (F : Int32) : OK (f_M_walkRow g 201 (some arr) (nI n0) F) (fun q => Dfr ScM g q.2 ∧ ((q.1 = -1 ∧ (∀ j, j < n0 → stopP h0 r F j = false) ∧ MRel q.2 (run h0 r F n0)) ∨ ∃ i, i < n0 ∧ q.1 = nI i ∧ stopP h0 r F i = true ∧ ∀ j, j < i → stopP h0 r F j = false)) := by
  obtain ⟨g1, e1, f1, M1⟩ := start_M hl f0 F
  have lg := f0.lay hl
  simp only [f_M_walkRow, cv_n (kk201 lg), e1, Option.bind_some]
  refine loopU (fun n (x : Nat × AH) => f_M_walkRow_L8 201 (some arr) (nI n0) n (nI x.1) x.2) (fun x => x.1 ≤ n0 ∧ Dfr ScM g x.2 ∧ (∀ j, j < x.1 → stopP h0 r F j = false) ∧ MRel x.2 (run h0 r F x.1)) (fun x => n0 - x.1) _ ?_ FU (0, g1) ⟨by simp, f1, fun j hj => absurd hj (by simp), M1⟩ (by show n0 - 0 < FU; unfold FU; omega)
  intro n x ⟨i1, i2, i3, i4⟩ ih
  obtain ⟨i, e⟩ := x
  dsimp only at i1 i2 i3 i4 ih ⊢
  have i2' : Dfr ScG h0 e := f0.trans (i2.mono (fun a k z => by unfold ScM at z; unfold ScG; omega))
  have le := i2'.lay hl
  have hke : hK e arr = (1, 5) := (i2'.K _).trans hk
  have h8e : ∀ i, i < n0 → r i < 8 ∧ hI e arr i = nI (r i) := fun j hj => ⟨(h8 j hj).1, by rw [i2.I (by unfold ScM; omega)]; exact (h8 j hj).2⟩
  by_cases q : i < n0
  · have l1 : nI i < nI n0 := nI_lt q (by omega)
    obtain ⟨s8, s1⟩ := h8e i q
    have e2 : ((5 : Int32) * nI (r i)) + (2 : Int32) = nI (5 * r i + 2) := by rw [show (5 : Int32) = nI 5 from rfl, pk_mul]; exact nI_add (5 * r i) 2
    simp only [f_M_walkRow_L8, l1, if_true, often_M hke h8e h5 _ q, gR_n (kk201 le), LR le, Option.bind_some, rI_n hke (show i < 5 by omega) (by decide), s1, e2, rI_n (kk209 le) (show 5 * r i + 2 < 40 by omega) (by decide), sc_static i2' (a := 209) (k := 5 * r i + 2) (by omega), cv_n (kk201 le), mayGo_M' hl i2' s8 i4]
    by_cases q1 : nI (cnt r (r i) i) < hI h0 209 (5 * r i + 2)
    · rw [if_pos q1]
      cases hq : okS h0 (r i) (run h0 r F i) with
      | false =>
        simp only [bI, Bool.false_eq_true, if_false, if_true]
        exact OK.mk ⟨i2, Or.inr ⟨i, q, rfl, by unfold stopP; rw [hq]; simp, i3⟩⟩
      | true =>
        simp only [bI, if_true, show ¬ ((1 : Int32) = 0) by decide, if_false]
        obtain ⟨g2, e3, f3, M3⟩ := go_M hl i2' s8 i4
        simp only [e3, Option.bind_some, nI_1]
        refine ih (i + 1, g2) ⟨by dsimp only; omega, i2.trans f3, fun j hj => ?_, M3⟩ (by dsimp only; omega)
        dsimp only at hj
        by_cases ej : j = i
        · subst ej; unfold stopP; rw [hq, decide_eq_true q1]; rfl
        · exact i3 j (by omega)
    · rw [if_neg q1]
      exact OK.mk ⟨i2, Or.inr ⟨i, q, rfl, by unfold stopP; rw [decide_eq_false q1]; rfl, i3⟩⟩
  · have : i = n0 := by omega
    subst this
    refine OK.eq (a := (-1, e)) ?_ ⟨i2, Or.inl ⟨rfl, i3, i4⟩⟩
    simp only [f_M_walkRow_L8, if_neg (show ¬ nI i < nI i from nI_nlt (Nat.le_refl _) (by omega))]
end RW
