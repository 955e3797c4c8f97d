/-! THE CLASS'S SEARCH -/
def SPl (a k : Nat) : Prop := (112 ≤ a ∧ a ≤ 134) ∨ a = 115 ∨ a = 116 ∨ (a = 107 ∧ 9 ≤ k ∧ k ≤ 12)
def BS (h0 g : AH) : Option (Rw × Nat) → Prop
  | none => hI g 107 9 = -1
  | some b => hI g 107 9 = nI b.2 ∧ b.2 ≤ 5 ∧ cst h0 b.1 b.2 ≤ 250 ∧ hI g 107 10 = nI (cst h0 b.1 b.2) ∧ ∀ i, i < b.2 → hI g 116 i = nI (b.1 i)
def DS (h0 : AH) (F w : Int32) (most : Nat) (g : AH) (t : Rw) (l : Nat) (b : Option (Rw × Nat)) : Prop :=
  Dfr SPl h0 g ∧ hI g 107 11 = w ∧ hI g 107 12 = nI most ∧ (∀ i, i < l → hI g 115 i = nI (t i)) ∧ (∀ i, i ≤ l → GRel (117 + 3 * i) g (run h0 t F i) (fun x => cnt t x i)) ∧ BS h0 g b
def tryB (n : Nat) (h0 : AH) (o : Nat) (p1 : Int32) (p2 : Int32) : Option AH :=
      (gI 8 h0 o 11).bind fun x2 =>
      (gR 8 h0 o 5).bind fun r3 =>
      (r3).bind fun a4 =>
      (rR 3 h0 a4 p1).bind fun r5 =>
      (r5).bind fun a6 =>
      (gI 3 h0 a6 0).bind fun x7 =>
      if (x2 &&& (x7 ^^^ (-1 : Int32))) = (0 : Int32) then
        (gR 8 h0 o 7).bind fun r30 =>
        (gR 8 h0 o 8).bind fun r31 =>
        (r30).bind fun a32 =>
        (r31).bind fun a33 =>
        (cpI h0 a32 (0 : Int32) a33 (0 : Int32) p1).bind fun h34 =>
        (pI 8 h34 o 9 p1).bind fun h35 =>
        (pI 8 h35 o 10 p2).bind fun h36 =>
        some h36
      else
        f_Ro_tryFrom_L79 (fun h o p1 p2 => f_Ro_tryFrom n h o p1 p2) o p1 p2 FU (0 : Int32) h0
theorem try_eq (n : Nat) (h0 : AH) (o : Nat) (p1 p2 : Int32) : f_Ro_tryFrom (n + 1) h0 o p1 p2 = (gI 8 h0 o 9).bind fun x1 =>
    if x1 = (-1 : Int32) then tryB n h0 o p1 p2
    else
      (gI 8 h0 o 10).bind fun x37 =>
      if x37 < p2 then
        some h0
      else
        (gI 8 h0 o 10).bind fun x38 =>
        if p2 = x38 then
          (gI 8 h0 o 9).bind fun x52 =>
          if p1 < x52 then tryB n h0 o p1 p2
          else some h0
        else tryB n h0 o p1 p2 := by
  rw [f_Ro_tryFrom]
  unfold tryB
  rfl
section PC
variable {h0 g : AH} {hn most : Nat} {ha : Nat → Nat} {F w : Int32}
theorem spl_st (f : Dfr SPl h0 g) {a : Nat} (h1 : 206 ≤ a) (h2 : a ≤ 210) : hI g a = hI h0 a := by
  funext k
  exact f.I (by unfold SPl; omega)
theorem spl_ok (f : Dfr SPl h0 g) (s : Nat) (W : WS) : okS g s W = okS h0 s W ∧ stp g s W = stp h0 s W := by
  unfold okS stp
  rw [spl_st f (a := 206) (by decide) (by decide), spl_st f (a := 207) (by decide) (by decide), spl_st f (a := 208) (by decide) (by decide), spl_st f (a := 209) (by decide) (by decide), spl_st f (a := 210) (by decide) (by decide)]
  exact ⟨rfl, rfl⟩
theorem spl_help (hl : Lay h0) (rh : RHelp h0 hn ha) (f : Dfr SPl h0 g) : RHelp g hn ha := rh.ag hl.2.2.2.2.2.2 (f.fr.ag (by unfold FHelp SPl; omega))
theorem spl_lev (hl : Lay h0) (rl : RLev h0) (f : Dfr SPl h0 g) : RLev g := rl.ag hl.2.2.2.2.2.2 (f.fr.ag (by unfold FLev SPl; omega))
theorem cst_b (rh : RHelp h0 hn ha) {r : Rw} : ∀ L, (∀ i, i < L → r i < hn) → cst h0 r L ≤ 50 * L
  | 0, _ => Nat.le_refl _
  | L + 1, e => by
    have h1 := cst_b rh L (fun i hi => e i (by omega))
    have h2 := ((rh.2.2.2 (r L) (e L (by omega))).2.pr).1
    simp only [cst]
    omega
def put (t : Rw) (l s : Nat) : Rw := fun i => if i = l then s else t i
theorem put_lt (t : Rw) (l s : Nat) : ∀ i, i < l → put t l s i = t i := fun i hi => by unfold put; rw [if_neg (by omega)]
theorem put_eq (t : Rw) (l s : Nat) : put t l s l = s := by unfold put; rw [if_pos rfl]
def chd (h0 : AH) (hn most : Nat) (F w : Int32) (t : Rw) (l s : Nat) (r : Rw) (L : Nat) : Prop := ext h0 hn most F w t l r L ∧ l < L ∧ r l < s
/-- what a call on a row that begins so does -/
def TrySp (h0 : AH) (hn most : Nat) (F w : Int32) (n l : Nat) : Prop := ∀ (g : AH) (t : Rw) (b : Option (Rw × Nat)), (∀ i, i < l → t i < hn) → (∀ i, i < l → stopP h0 t F i = false) → DS h0 F w most g t l b → OK (f_Ro_tryFrom n g 107 (nI l) (nI (cst h0 t l))) (fun g' => ∃ b', DS h0 F w most g' t l b' ∧ Res h0 (ext h0 hn most F w t l) b b')
theorem loop_C (hl : Lay h0) (rh : RHelp h0 hn ha) (rl : RLev h0) (hm : most ≤ 5) {l n : Nat} (hlm : l < most) (IH : TrySp h0 hn most F w n (l + 1)) {t : Rw} {b0 : Option (Rw × Nat)} (ht : ∀ i, i < l → t i < hn) (hs : ∀ i, i < l → stopP h0 t F i = false) : ∀ N (z : Nat × AH), (z.1 ≤ hn ∧ ∃ b, DS h0 F w most z.2 t l b ∧ Res h0 (chd h0 hn most F w t l z.1) b0 b) → hn - z.1 < N → OK (f_Ro_tryFrom_L79 (fun h o p1 p2 => f_Ro_tryFrom n h o p1 p2) 107 (nI l) (nI (cst h0 t l)) N (nI z.1) z.2) (fun g' => ∃ b', DS h0 F w most g' t l b' ∧ Res h0 (chd h0 hn most F w t l hn) b0 b') := by
  have h8 := rh.1
  refine loopU (fun N (z : Nat × AH) => f_Ro_tryFrom_L79 (fun h o p1 p2 => f_Ro_tryFrom n h o p1 p2) 107 (nI l) (nI (cst h0 t l)) N (nI z.1) z.2) _ (fun z => hn - z.1) _ ?_
  intro N z ⟨h1, b, D, R⟩ ih
  obtain ⟨s, g⟩ := z
  dsimp only at h1 D R ih ⊢
  have f := D.1
  have lg := f.lay hl
  have rhg := spl_help hl rh f
  have rlg := spl_lev hl rl f
  by_cases q : s < hn
  · obtain ⟨c1, c2, c3, c4, c5, c6⟩ := lg.going (i := l) (by omega)
    have G := D.2.2.2.2.1 l (Nat.le_refl _)
    have B : GoB (117 + 3 * l) := Or.inr ⟨l, by omega, rfl⟩
    have m1 := may_C' lg rhg Dfr.refl q B G
    rw [(spl_ok f s _).1, spl_st f (a := 209) (by decide) (by decide)] at m1
    have st : stopP h0 (put t l s) F l = !(decide (nI (cnt t s l) < hI h0 209 (5 * s + 2)) && okS h0 s (run h0 t F l)) := by
      unfold stopP
      rw [put_eq, cnt_cong s l (put_lt t l s), run_cong F l (put_lt t l s)]
    simp only [f_Ro_tryFrom_L79, gI_n (c := 8) (kk107 lg), rhg.2.1, Option.bind_some, nI_lt q (by omega), if_true, D.2.2.1, nI_lt hlm (by omega), gR_n (c := 8) (kk107 lg), LR lg, rR_n (c := 3) (kk111 lg) (show l < 6 by omega) (by decide), c4, rR_n (c := 4) (kk108 lg) (show s < 8 by omega) (by decide), (rhg.2.2.2 s q).1, cv_n (c := 3) c1, m1, bI0, nI_1]
    cases hq : (decide (nI (cnt t s l) < hI h0 209 (5 * s + 2)) && okS h0 s (run h0 t F l)) with
    | false =>
      rw [if_pos rfl]
      refine ih (s + 1, g) ⟨by dsimp only; omega, b, D, R.iff (fun r L => ?_)⟩ (by dsimp only; omega)
      unfold chd
      constructor
      · rintro ⟨x1, x2, x3⟩; exact ⟨x1, x2, by dsimp only; omega⟩
      · rintro ⟨x1, x2, x3⟩
        refine ⟨x1, x2, ?_⟩
        dsimp only at x3
        by_cases e : r l = s
        · exfalso
          have y1 := x1.2.2.2.2.1 l x2
          have : stopP h0 r F l = stopP h0 (put t l s) F l := stop_cong F (fun j hj => by
            by_cases z : j = l
            · rw [z, put_eq, e]
            · rw [put_lt t l s j (by omega)]; exact x1.2.2.1 j (by omega))
          rw [this, st, hq] at y1
          cases y1
        · omega
    | true =>
      rw [if_neg (by decide)]
      -- on with this helper
      obtain ⟨g1, eg1⟩ : ∃ g1, g1 = uI g 115 l (nI s) := ⟨_, rfl⟩
      have w1 : wI g 115 (nI l) (nI s) = some g1 := by rw [eg1]; exact wI_n (by decide) (kk115 lg) (show l < 5 by omega) (by decide)
      have f1 : Dfr SPl h0 g1 := by rw [eg1]; exact f.trans (Dfr.uI (by decide) (Or.inr (Or.inl rfl)))
      have l1 := f1.lay hl
      have rh1 := spl_help hl rh f1
      have rl1 := spl_lev hl rl f1
      have e115 : Dfr (fun a k => a = 115) g g1 := by rw [eg1]; exact Dfr.uI (by decide) rfl
      have G1 : ∀ i, i ≤ l → GRel (117 + 3 * i) g1 (run h0 (put t l s) F i) (fun x => cnt (put t l s) x i) := by
        intro i hi
        obtain ⟨y1, y2, y3⟩ := D.2.2.2.2.1 i hi
        rw [run_cong F i (fun j hj => put_lt t l s j (by omega))]
        refine ⟨by rw [e115.I (by omega)]; exact y1, fun x hx => by rw [e115.I (by omega)]; exact y2 x hx, fun x hx => ?_⟩
        rw [e115.I (by omega), y3 x hx]
        dsimp only
        rw [cnt_cong x i (fun j hj => put_lt t l s j (by omega))]
      obtain ⟨g2, e2, f2, G2⟩ := goOn_C l1 rh1 rl1 Dfr.refl q (show l < 5 by omega) (G1 l (Nat.le_refl _))
      have f2' : Dfr SPl g1 g2 := f2.mono (fun a k z => by unfold ScB at z; unfold SPl; omega)
      have f02 := f1.trans f2'
      have l2 := f02.lay hl
      have rh2 := spl_help hl rh f02
      rw [(spl_ok f1 s _).2] at G2
      have G2' : GRel (117 + 3 * (l + 1)) g2 (run h0 (put t l s) F (l + 1)) (fun x => cnt (put t l s) x (l + 1)) := by
        have := tm_cnt (put t l s) l
        rw [put_eq] at this
        rw [← this]
        show GRel (117 + 3 * (l + 1)) g2 (stp h0 (put t l s l) (run h0 (put t l s) F l)) _
        rw [put_eq]
        exact G2
      have H2 := (rh2.2.2.2 s q)
      have pr0 : hI g2 209 (5 * s) = nI (prN h0 s) := by rw [spl_st f02 (a := 209) (by decide) (by decide)]; exact ((rh.2.2.2 s q).2.pr).2.1
      have D2 : DS h0 F w most g2 (put t l s) (l + 1) b := by
        refine ⟨f02, ?_, ?_, fun i hi => ?_, fun i hi => ?_, ?_⟩
        · rw [f2.I (by unfold ScB; omega), e115.I (by omega)]; exact D.2.1
        · rw [f2.I (by unfold ScB; omega), e115.I (by omega)]; exact D.2.2.1
        · rw [f2.I (by unfold ScB; omega)]
          by_cases z : i = l
          · rw [z, put_eq, eg1, hI_eq]
          · rw [put_lt t l s i (by omega), eg1, hI_ne (by omega)]; exact D.2.2.2.1 i (by omega)
        · by_cases z : i = l + 1
          · rw [z]; exact G2'
          · obtain ⟨y1, y2, y3⟩ := G1 i (by omega)
            exact ⟨by rw [f2.I (by unfold ScB; omega)]; exact y1, fun x hx => by rw [f2.I (by unfold ScB; omega)]; exact y2 x hx, fun x hx => by rw [f2.I (by unfold ScB; omega)]; exact y3 x hx⟩
        · have fb : ∀ a k, (a = 107 ∨ a = 116) → hI g2 a k = hI g a k := fun a k z => by rw [f2.I (by unfold ScB; omega), e115.I (by omega)]
          have DB := D.2.2.2.2.2
          cases b with
          | none => unfold BS at DB ⊢; rw [fb 107 9 (Or.inl rfl)]; exact DB
          | some b =>
            unfold BS at DB ⊢
            rw [fb 107 9 (Or.inl rfl), fb 107 10 (Or.inl rfl)]
            exact ⟨DB.1, DB.2.1, DB.2.2.1, DB.2.2.2.1, fun i hi => by rw [fb 116 i (Or.inr rfl)]; exact DB.2.2.2.2 i hi⟩
      obtain ⟨g3, e3, b3, D3, R3⟩ := IH g2 (put t l s) b (fun i hi => by
          by_cases z : i = l
          · rw [z, put_eq]; exact q
          · rw [put_lt t l s i (by omega)]; exact ht i (by omega)) (fun i hi => by
          by_cases z : i = l
          · rw [z, st, hq]; rfl
          · rw [stop_cong F (fun j hj => put_lt t l s j (by omega))]; exact hs i (by omega)) D2
      have ec : nI (cst h0 t l) + nI (prN h0 s) = nI (cst h0 (put t l s) (l + 1)) := by
        rw [nI_add]
        congr 1
        simp only [cst]
        rw [put_eq, cst_cong l (put_lt t l s)]
      simp only [w1, Option.bind_some, cv_n (c := 8) (kk107 l1), e2, gR_n (c := 8) (kk107 l2), LR l2, rR_n (c := 4) (kk108 l2) (show s < 8 by omega) (by decide), H2.1, H2.2.tr, H2.2.t0, pr0, ec, cv_n (c := 8) (kk107 l2), e3]
      refine ih (s + 1, g3) ⟨by dsimp only; omega, b3, ?_, ?_⟩ (by dsimp only; omega)
      · refine ⟨D3.1, D3.2.1, D3.2.2.1, fun i hi => ?_, fun i hi => ?_, D3.2.2.2.2.2⟩
        · rw [D3.2.2.2.1 i (by omega), put_lt t l s i hi]
        · have := D3.2.2.2.2.1 i (by omega)
          rw [run_cong F i (fun j hj => put_lt t l s j (by omega))] at this
          obtain ⟨y1, y2, y3⟩ := this
          exact ⟨y1, y2, fun x hx => by rw [y3 x hx]; dsimp only; rw [cnt_cong x i (fun j hj => put_lt t l s j (by omega))]⟩
      · refine (R.comp R3 (fun r r' L x z => ?_)).iff (fun r L => ?_)
        · refine ⟨l, x.2.1, fun i hi => ?_, ?_⟩
          · rw [x.1.2.2.1 i hi, z.2.2.1 i (by omega), put_lt t l s i hi]
          · rw [z.2.2.1 l (by omega), put_eq]; exact x.2.2
        · unfold chd ext
          dsimp only
          constructor
          · rintro (⟨x1, x2, x3⟩ | ⟨x1, x2, x3, x4⟩)
            · exact ⟨x1, x2, by omega⟩
            · refine ⟨⟨by omega, x2, fun i hi => ?_, x4⟩, by omega, ?_⟩
              · rw [x3 i (by omega), put_lt t l s i hi]
              · rw [x3 l (by omega), put_eq]; omega
          · rintro ⟨⟨y1, y2, y3, y4⟩, x2, x3⟩
            by_cases e : r l = s
            · refine Or.inr ⟨by omega, y2, fun i hi => ?_, y4⟩
              by_cases z : i = l
              · rw [z, put_eq, e]
              · rw [put_lt t l s i (by omega)]; exact y3 i (by omega)
            · exact Or.inl ⟨⟨y1, y2, y3, y4⟩, x2, by omega⟩
  · have : s = hn := by omega
    subst this
    simp only [f_Ro_tryFrom_L79, gI_n (c := 8) (kk107 lg), rhg.2.1, Option.bind_some, nI_nlt (Nat.le_refl s) (by omega), if_false]
    exact OK.mk ⟨b, D, R⟩
theorem tryB_C (hl : Lay h0) (rh : RHelp h0 hn ha) (rl : RLev h0) (hm : most ≤ 5) {l n : Nat} (hlm : l ≤ most) (IH : l < most → TrySp h0 hn most F w n (l + 1)) {g : AH} {t : Rw} {b : Option (Rw × Nat)} (ht : ∀ i, i < l → t i < hn) (hs : ∀ i, i < l → stopP h0 t F i = false) (D : DS h0 F w most g t l b) (hlt : ltO h0 (key h0 t l) b) : OK (tryB n g 107 (nI l) (nI (cst h0 t l))) (fun g' => ∃ b', DS h0 F w most g' t l b' ∧ Res h0 (ext h0 hn most F w t l) b b') := by
  have h8 := rh.1
  have f := D.1
  have lg := f.lay hl
  have rhg := spl_help hl rh f
  obtain ⟨c1, c2, c3, c4, c5, c6⟩ := lg.going (i := l) (by omega)
  have G := D.2.2.2.2.1 l (Nat.le_refl _)
  have cb := cst_b rh l ht
  simp only [tryB, gI_n (c := 8) (kk107 lg), D.2.1, gR_n (c := 8) (kk107 lg), LR lg, Option.bind_some, rR_n (c := 3) (kk111 lg) (show l < 6 by omega) (by decide), c4, gI_n (c := 3) c1, G.1]
  by_cases wq : w &&& ((run h0 t F l).1 ^^^ (-1 : Int32)) = 0
  · rw [if_pos wq]
    obtain ⟨g1, e1, f1, v1⟩ := copyI (h := g) (a := 115) (b := 116) (n := l) (by decide) (by decide) (kk115 lg) (kk116 lg) (by omega) (by omega) (by omega)
    have f01 : Dfr SPl h0 g1 := f.trans (f1.mono (fun a k z => Or.inr (Or.inr (Or.inl z.1))))
    have l1 := f01.lay hl
    obtain ⟨g2, eg2⟩ : ∃ g2, g2 = uI g1 107 9 (nI l) := ⟨_, rfl⟩
    have f02 : Dfr SPl h0 g2 := by rw [eg2]; exact f01.trans (Dfr.uI (by decide) (Or.inr (Or.inr (Or.inr ⟨rfl, by decide, by decide⟩))))
    have l2 := f02.lay hl
    obtain ⟨g3, eg3⟩ : ∃ g3, g3 = uI g2 107 10 (nI (cst h0 t l)) := ⟨_, rfl⟩
    have f03 : Dfr SPl h0 g3 := by rw [eg3]; exact f02.trans (Dfr.uI (by decide) (Or.inr (Or.inr (Or.inr ⟨rfl, by decide, by decide⟩))))
    have p1 : pI 8 g1 107 9 (nI l) = some g2 := by rw [eg2]; exact pI_n (c := 8) (kk107 l1)
    have p2 : pI 8 g2 107 10 (nI (cst h0 t l)) = some g3 := by rw [eg3]; exact pI_n (c := 8) (kk107 l2)
    simp only [e1, Option.bind_some, p1, p2]
    have o : ∀ a k, ¬ (a = 116 ∨ (a = 107 ∧ (k = 9 ∨ k = 10))) → hI g3 a k = hI g a k := by
      intro a k z
      rw [eg3, hI_ne (by omega), eg2, hI_ne (by omega), f1.I (by omega)]
    refine OK.mk ⟨some (t, l), ⟨f03, ?_, ?_, fun i hi => ?_, fun i hi => ?_, ?_⟩, Or.inr ⟨t, l, rfl, ⟨Nat.le_refl _, hlm, fun i _ => rfl, ht, hs, wq⟩, hlt, fun r' L' x => ?_⟩⟩
    · rw [o 107 11 (by omega)]; exact D.2.1
    · rw [o 107 12 (by omega)]; exact D.2.2.1
    · rw [o 115 i (by omega)]; exact D.2.2.2.1 i hi
    · obtain ⟨y1, y2, y3⟩ := D.2.2.2.2.1 i hi
      exact ⟨by rw [o _ _ (by omega)]; exact y1, fun x hx => by rw [o _ _ (by omega)]; exact y2 x hx, fun x hx => by rw [o _ _ (by omega)]; exact y3 x hx⟩
    · unfold BS
      dsimp only
      refine ⟨?_, by omega, by omega, ?_, fun i hi => ?_⟩
      · rw [eg3, hI_ne (by omega), eg2, hI_eq]
      · rw [eg3, hI_eq]
      · rw [eg3, hI_ne (by omega), eg2, hI_ne (by omega), v1 i hi]; exact D.2.2.2.1 i hi
    · obtain ⟨x1, x2, x3, x4⟩ := x
      have cm : cst h0 t l ≤ cst h0 r' L' := by rw [← cst_cong l x3]; exact cst_mono r' x1
      refine ⟨?_, fun e => ?_⟩
      · unfold lt2 key; dsimp only; omega
      · rintro ⟨j, j1, j2, j3⟩
        rw [x3 j j1] at j3
        omega
  · rw [if_neg wq]
    have noL : ∀ r, ¬ ext h0 hn most F w t l r l := by
      rintro r ⟨x1, x2, x3, x4⟩
      have := x4.2.2
      rw [run_cong F l x3] at this
      exact wq this
    by_cases q : l < most
    · refine (loop_C hl rh rl hm q (IH q) ht hs FU (0, g) ⟨Nat.zero_le _, b, D, Res.nil (fun r L x => ?_)⟩ (by show hn - 0 < FU; unfold FU; omega)).mono (fun g' ⟨b', D', R'⟩ => ⟨b', D', R'.iff (fun r L => ?_)⟩)
      · exact absurd x.2.2 (by simp)
      · unfold chd
        constructor
        · intro x; exact x.1
        · intro x
          have hL : l < L := by
            rcases Nat.lt_or_ge l L with z | z
            · exact z
            · have e : L = l := by have := x.1; omega
              subst e
              exact absurd x (noL r)
          exact ⟨x, hL, x.2.2.2.1 l hL⟩
    · have el : l = most := by omega
      subst el
      refine OK.eq (a := g) ?_ ⟨b, D, Res.nil (fun r L x => ?_)⟩
      · obtain ⟨N, hN⟩ := FU_succ
        rw [hN]
        by_cases z : (0 : Int32) < nI hn
        · simp only [f_Ro_tryFrom_L79, gI_n (c := 8) (kk107 lg), rhg.2.1, Option.bind_some, z, if_true, D.2.2.1, nI_nlt (Nat.le_refl l) (by omega), if_false]
        · simp only [f_Ro_tryFrom_L79, gI_n (c := 8) (kk107 lg), rhg.2.1, Option.bind_some, z, if_false]
      · have e : L = l := by have := x.1; have := x.2.1; omega
        subst e
        exact noL r x
theorem try_C (hl : Lay h0) (rh : RHelp h0 hn ha) (rl : RLev h0) (hm : most ≤ 5) : ∀ d l n, l + d = most → d < n → TrySp h0 hn most F w n l := by
  have h8 := rh.1
  have step : ∀ l n, l ≤ most → (l < most → TrySp h0 hn most F w n (l + 1)) → TrySp h0 hn most F w (n + 1) l := by
    intro l n hlm IH g t b ht hs D
    have f := D.1
    have lg := f.lay hl
    have cb := cst_b rh l ht
    rw [try_eq]
    simp only [gI_n (c := 8) (kk107 lg), Option.bind_some]
    have DB := D.2.2.2.2.2
    cases b with
    | none =>
      unfold BS at DB
      rw [if_pos DB]
      exact tryB_C hl rh rl hm hlm IH ht hs D trivial
    | some b =>
      unfold BS at DB
      obtain ⟨d1, d2, d3, d4, d5⟩ := DB
      rw [d1, d4, if_neg (fun z => m1_nI (by omega) z)]
      have prune : ¬ lt2 (key h0 t l) (key h0 b.1 b.2) → OK (some g) (fun g' => ∃ b', DS h0 F w most g' t l b' ∧ Res h0 (ext h0 hn most F w t l) (some b) b') := by
        intro no
        refine OK.mk ⟨some b, D, Or.inl ⟨rfl, fun r L x => ?_⟩⟩
        obtain ⟨x1, x2, x3, x4⟩ := x
        have cm : cst h0 t l ≤ cst h0 r L := by rw [← cst_cong l x3]; exact cst_mono r x1
        unfold ltO lt2 key at *
        dsimp only at *
        omega
      by_cases q1 : cst h0 b.1 b.2 < cst h0 t l
      · rw [if_pos (nI_lt q1 (by omega))]
        exact prune (by unfold lt2 key; dsimp only; omega)
      · rw [if_neg (nI_nlt (by omega) (by omega))]
        by_cases q2 : cst h0 t l = cst h0 b.1 b.2
        · rw [if_pos (by rw [q2])]
          by_cases q3 : l < b.2
          · rw [if_pos (nI_lt q3 (by omega))]
            exact tryB_C hl rh rl hm hlm IH ht hs D (Or.inr ⟨q2, q3⟩)
          · rw [if_neg (nI_nlt (by omega) (by omega))]
            exact prune (by unfold lt2 key; dsimp only; omega)
        · rw [if_neg (fun z => q2 (nI_inj (by omega) (by omega) z))]
          exact tryB_C hl rh rl hm hlm IH ht hs D (Or.inl (by unfold key; dsimp only; omega))
  intro d
  induction d with
  | zero =>
    intro l n h1 h2
    obtain ⟨n, rfl⟩ : ∃ q, n = q + 1 := ⟨n - 1, by omega⟩
    exact step l n (by omega) (fun z => by omega)
  | succ d ih =>
    intro l n h1 h2
    obtain ⟨n, rfl⟩ : ∃ q, n = q + 1 := ⟨n - 1, by omega⟩
    exact step l n (by omega) (fun _ => ih (l + 1) n (by omega) (by omega))
theorem best_C (hl : Lay h0) (rh : RHelp h0 hn ha) (rl : RLev h0) (hm : most ≤ 5) : OK (f_Ro_becomeBest h0 107 F w (nI most)) (fun q => Dfr (fun a k => SPl a k ∨ (a = 107 ∧ k = 4) ∨ a = 110) h0 q.2 ∧ ∃ b, Res h0 (ext h0 hn most F w (fun _ => 0) 0) none b ∧ match b with
    | none => q.1 = -1 ∧ hI q.2 107 4 = hI h0 107 4 ∧ ∀ i, hI q.2 110 i = hI h0 110 i
    | some b => b.2 ≤ 5 ∧ cst h0 b.1 b.2 ≤ 250 ∧ q.1 = nI (cst h0 b.1 b.2) ∧ hI q.2 107 4 = nI b.2 ∧ ∀ i, i < b.2 → hI q.2 110 i = nI (b.1 i)) := by
  obtain ⟨g1, e1⟩ : ∃ g1, g1 = uI h0 107 11 w := ⟨_, rfl⟩
  have f1 : Dfr SPl h0 g1 := by rw [e1]; exact Dfr.uI (by decide) (Or.inr (Or.inr (Or.inr ⟨rfl, by decide, by decide⟩)))
  have l1 := f1.lay hl
  obtain ⟨g2, e2⟩ : ∃ g2, g2 = uI g1 107 12 (nI most) := ⟨_, rfl⟩
  have f2 : Dfr SPl h0 g2 := by rw [e2]; exact f1.trans (Dfr.uI (by decide) (Or.inr (Or.inr (Or.inr ⟨rfl, by decide, by decide⟩))))
  have l2 := f2.lay hl
  obtain ⟨g3, e3⟩ : ∃ g3, g3 = uI g2 107 9 (-1) := ⟨_, rfl⟩
  have f3 : Dfr SPl h0 g3 := by rw [e3]; exact f2.trans (Dfr.uI (by decide) (Or.inr (Or.inr (Or.inr ⟨rfl, by decide, by decide⟩))))
  have l3 := f3.lay hl
  have p1 : pI 8 h0 107 11 w = some g1 := by rw [e1]; exact pI_n (c := 8) (kk107 hl)
  have p2 : pI 8 g1 107 12 (nI most) = some g2 := by rw [e2]; exact pI_n (c := 8) (kk107 l1)
  have p3 : pI 8 g2 107 9 (-1) = some g3 := by rw [e3]; exact pI_n (c := 8) (kk107 l2)
  obtain ⟨g4, e4, f4, G4⟩ := start_C l3 (spl_lev hl rl f3) Dfr.refl F
  have f4' : Dfr SPl h0 g4 := f3.trans (f4.mono (fun a k z => by unfold ScB at z; unfold SPl; omega))
  have l4 := f4'.lay hl
  rw [spl_st f3 (a := 210) (by decide) (by decide)] at G4
  obtain ⟨a1, a2, a3, a4, a5, a6⟩ := l3.going (i := 0) (by decide)
  have D0 : DS h0 F w most g4 (fun _ => 0) 0 none := by
    refine ⟨f4', ?_, ?_, fun i hi => absurd hi (by simp), fun i hi => ?_, ?_⟩
    · rw [f4.I (by unfold ScB; omega), e3, hI_ne (by omega), e2, hI_ne (by omega), e1, hI_eq]
    · rw [f4.I (by unfold ScB; omega), e3, hI_ne (by omega), e2, hI_eq]
    · have : i = 0 := by omega
      subst this
      exact G4
    · show hI g4 107 9 = -1
      rw [f4.I (by unfold ScB; omega), e3, hI_eq]
  obtain ⟨g5, e5, b, D5, R5⟩ := try_C (F := F) (w := w) hl rh rl hm most 0 8 (by omega) (by omega) g4 (fun _ => 0) none (fun i hi => absurd hi (by simp)) (fun i hi => absurd hi (by simp)) D0
  have l5 := D5.1.lay hl
  have e5' : f_Ro_tryFrom 8 g4 107 (0 : Int32) (0 : Int32) = some g5 := e5
  have r0 : rR 3 g3 111 (0 : Int32) = some (some 117) := by
    have := rR_n (c := 3) (j := 0) (kk111 l3) (by decide) (by decide)
    rw [a4] at this
    exact this
  simp only [f_Ro_becomeBest, p1, p2, p3, Option.bind_some, gR_n (c := 8) (kk107 l3), LR l3, r0, cv_n (c := 3) (show hK g3 117 = (100 + 3, 0) from a1), e4, cv_n (c := 8) (kk107 l4), e5', gI_n (c := 8) (kk107 l5)]
  have DB := D5.2.2.2.2.2
  cases b with
  | none =>
    unfold BS at DB
    rw [if_pos DB]
    refine OK.mk ⟨D5.1.mono (fun a k z => Or.inl z), none, R5, rfl, ?_, fun i => ?_⟩
    · exact D5.1.I (by unfold SPl; omega)
    · exact D5.1.I (by unfold SPl; omega)
  | some b =>
    unfold BS at DB
    obtain ⟨d1, d2, d3, d4, d5⟩ := DB
    rw [d1, if_neg (fun z => m1_nI (by omega) z)]
    obtain ⟨g6, e6, f6, v6⟩ := copyI (h := g5) (a := 116) (b := 110) (n := b.2) (by decide) (by decide) (kk116 l5) (kk110 l5) (by omega) (by omega) (by omega)
    have l6 := f6.lay l5
    have i9 : hI g6 107 9 = nI b.2 := by rw [f6.I (by omega)]; exact d1
    obtain ⟨g7, e7⟩ : ∃ g7, g7 = uI g6 107 4 (nI b.2) := ⟨_, rfl⟩
    have f7 : Dfr (fun a k => (a = 107 ∧ k = 4) ∨ a = 110) g5 g7 := by rw [e7]; exact (f6.mono (fun a k z => Or.inr z.1)).trans (Dfr.uI (by decide) (Or.inl ⟨rfl, rfl⟩))
    have l7 := f7.lay l5
    have p7 : pI 8 g6 107 4 (nI b.2) = some g7 := by rw [e7]; exact pI_n (c := 8) (kk107 l6)
    have i10 : hI g7 107 10 = nI (cst h0 b.1 b.2) := by rw [f7.I (by omega)]; exact d4
    simp only [gR_n (c := 8) (kk107 l5), LR l5, gI_n (c := 8) (kk107 l5), d1, Option.bind_some, e6, gI_n (c := 8) (kk107 l6), i9, p7, gI_n (c := 8) (kk107 l7), i10]
    refine OK.mk ⟨(D5.1.mono (fun a k z => Or.inl z)).trans (f7.mono (fun a k z => Or.inr z)), some b, R5, d2, d3, rfl, ?_, fun i hi => ?_⟩
    · dsimp only; rw [e7, hI_eq]
    · dsimp only; rw [e7, hI_ne (by omega), v6 i hi]; exact d5 i hi
end PC
