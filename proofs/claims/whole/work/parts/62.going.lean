/-! WHAT IS HELD along a row: both programs beside one plain account -/
def wst (T : Nat → Int32) (x : Int32) : Nat → Int32
  | 0 => 0
  | i + 1 => if hb x i = true ∧ wst T x i < T i then T i else wst T x i
def goT (T lv : Nat → Int32) (g w : Int32) (f : Nat) : Int32 := if hb g f = true then (if lv f < w then w else lv f) else T f
abbrev WS : Type := Int32 × (Nat → Int32)
def okS (h0 : AH) (s : Nat) (W : WS) : Bool := decide (hI h0 206 s &&& (W.1 ^^^ -1) = 0) && !decide (hI h0 209 (5 * s + 3) < wst W.2 (hI h0 206 s) 12)
def stp (h0 : AH) (s : Nat) (W : WS) : WS := ((W.1 &&& (hI h0 208 s ^^^ -1)) ||| hI h0 207 s, fun f => if f < 12 then goT W.2 (hI h0 210) (hI h0 207 s) (wst W.2 (hI h0 206 s) 12) f else W.2 f)
def GRel (b : Nat) (g : AH) (W : WS) (tm : Nat → Nat) : Prop := hI g b 0 = W.1 ∧ (∀ f, f < 12 → hI g (b + 1) f = W.2 f) ∧ ∀ s, s < 8 → hI g (b + 2) s = nI (tm s)
def MRel (g : AH) (W : WS) : Prop := hI g 201 51 = W.1 ∧ ∀ f, f < 12 → hI g 232 f = W.2 f
def ScG (a k : Nat) : Prop := (112 ≤ a ∧ a ≤ 134) ∨ (a = 201 ∧ k = 51) ∨ a = 232
def ScM (a k : Nat) : Prop := (a = 201 ∧ k = 51) ∨ a = 232
def ScB (b : Nat) (a _k : Nat) : Prop := b ≤ a ∧ a ≤ b + 2
def GoB (b : Nat) : Prop := b = 112 ∨ ∃ i, i < 6 ∧ b = 117 + 3 * i
theorem mx32 (w l : Int32) : (if w < l then l else w) = (if l < w then w else l) := by
  by_cases q : w < l
  · rw [if_pos q, if_neg]
    intro z
    have h1 := Int32.lt_iff_toInt_lt.mp q
    have h2 := Int32.lt_iff_toInt_lt.mp z
    omega
  · rw [if_neg q]
    by_cases z : l < w
    · rw [if_pos z]
    · rw [if_neg z]
      apply Int32.toInt_inj.mp
      rw [Int32.lt_iff_toInt_lt] at q z
      omega
theorem wst_cong {T T' : Nat → Int32} (x : Int32) : ∀ n, (∀ f, f < n → T f = T' f) → wst T x n = wst T' x n
  | 0, _ => rfl
  | n + 1, e => by
    have := wst_cong x n (fun f hf => e f (by omega))
    simp only [wst, this, e n (by omega)]
theorem ok_if (p q : Prop) [Decidable p] [Decidable q] : (if p then (if q then (some 0 : Option Int32) else some 1) else some 0) = some (bI (decide p && !decide q)) := by
  by_cases h1 : p <;> by_cases h2 : q <;> simp [h1, h2, bI]
section GO
variable {h0 g : AH} {hn : Nat} {ha : Nat → Nat} {b s : Nat} {W : WS} {tm : Nat → Nat}
theorem GoB.facts (hl : Lay g) (hb : GoB b) : (hK g b = (103, 0) ∧ hK g (b + 1) = (1, 12) ∧ hK g (b + 2) = (1, 8)) ∧ (hR g b 1 = some (b + 1) ∧ hR g b 2 = some (b + 2)) ∧ 112 ≤ b ∧ b + 2 ≤ 134 := by
  rcases hb with rfl | ⟨i, hi, rfl⟩
  · exact ⟨⟨kk112 hl, kk113 hl, kk114 hl⟩, ⟨hl.R 112 1 113 (by decide +kernel), hl.R 112 2 114 (by decide +kernel)⟩, by omega, by omega⟩
  · obtain ⟨a1, a2, a3, a4, a5, a6⟩ := hl.going hi
    exact ⟨⟨a1, by rw [show 117 + 3 * i + 1 = 118 + 3 * i by omega]; exact a2, by rw [show 117 + 3 * i + 2 = 119 + 3 * i by omega]; exact a3⟩, ⟨by rw [a5, show 117 + 3 * i + 1 = 118 + 3 * i by omega], by rw [a6, show 117 + 3 * i + 2 = 119 + 3 * i by omega]⟩, by omega, by omega⟩
theorem tnt_C (hl : Lay g) (hb' : GoB b) (hw : ∀ f, f < 12 → hI g (b + 1) f = W.2 f) (x : Int32) : f_Go_greatestTaint g b x = some (wst W.2 x 12) := by
  obtain ⟨⟨k1, k2, k3⟩, ⟨r1, r2⟩, -, -⟩ := hb'.facts hl
  have main : ∀ d i n, i + d = 12 → d < n → f_Go_greatestTaint_L4 g b x n (wst W.2 x i) (nI i) = some (wst W.2 x 12) := by
    intro d
    induction d with
    | zero =>
      intro i n hi hn
      obtain ⟨n, rfl⟩ : ∃ q, n = q + 1 := ⟨n - 1, by omega⟩
      have : i = 12 := by omega
      subst this
      simp [f_Go_greatestTaint_L4, show ¬ nI 12 < 12 by decide]
    | succ d ih =>
      intro i n hi hn
      obtain ⟨n, rfl⟩ : ∃ q, n = q + 1 := ⟨n - 1, by omega⟩
      have l8 : nI i < 12 := nI_lt (b := 12) (by omega) (by decide)
      rw [← ih (i + 1) n (by omega) (by omega)]
      simp only [f_Go_greatestTaint_L4, l8, if_true, hasBit_C, Option.bind_some, gR_n (c := 3) k1, r1, rI_n k2 (show i < 12 by omega) (by decide), hw i (by omega), nI_1, wst]
      cases hq : hb x i with
      | false => simp [bI]
      | true => simp [bI]
  exact main 12 0 FU (by omega) (by decide)
theorem tnt_M (hl : Lay g) (hw : ∀ f, f < 12 → hI g 232 f = W.2 f) (x : Int32) : f_M_worst g 201 x = some (wst W.2 x 12) := by
  have main : ∀ d i n, i + d = 12 → d < n → f_M_worst_L4 g 201 x n (wst W.2 x i) (nI i) = some (wst W.2 x 12) := by
    intro d
    induction d with
    | zero =>
      intro i n hi hn
      obtain ⟨n, rfl⟩ : ∃ q, n = q + 1 := ⟨n - 1, by omega⟩
      have : i = 12 := by omega
      subst this
      simp [f_M_worst_L4, show ¬ nI 12 < 12 by decide]
    | succ d ih =>
      intro i n hi hn
      obtain ⟨n, rfl⟩ : ∃ q, n = q + 1 := ⟨n - 1, by omega⟩
      have l8 : nI i < 12 := nI_lt (b := 12) (by omega) (by decide)
      rw [← ih (i + 1) n (by omega) (by omega)]
      simp only [f_M_worst_L4, l8, if_true, hb_1, Option.bind_some, gR_n (kk201 hl), LR hl, rI_n (kk232 hl) (show i < 12 by omega) (by decide), hw i (by omega), nI_1, wst]
      cases hq : hb x i with
      | false => simp
      | true =>
        by_cases q : wst W.2 x i < W.2 i <;> simp [q]
  exact main 12 0 FU (by omega) (by decide)
/-- the static rows, read in a later heap -/
theorem sc_static (f : Dfr ScG h0 g) {a k : Nat} (h1 : ¬ ((112 ≤ a ∧ a ≤ 134) ∨ (a = 201 ∧ k = 51) ∨ a = 232)) : hI g a k = hI h0 a k := f.I h1
theorem sc_help (hl : Lay h0) (rh : RHelp h0 hn ha) (f : Dfr ScG h0 g) : RHelp g hn ha := rh.ag hl.2.2.2.2.2.2 (f.fr.ag (by unfold FHelp ScG; omega))
theorem sc_lev (hl : Lay h0) (rl : RLev h0) (f : Dfr ScG h0 g) : RLev g := rl.ag hl.2.2.2.2.2.2 (f.fr.ag (by unfold FLev ScG; omega))
/-- the traits of helper s as the class reads them -/
theorem HP.trait {a w : Nat} (H : HP g hn s a) (hw : w < 8) : gR 4 g a 0 = some (some (a + 1)) ∧ rI 1 g (a + 1) (nI w) = some (if w < 5 then hI g 209 (5 * s + w) else if w = 5 then hI g 206 s else if w = 6 then hI g 207 s else hI g 208 s) := by
  refine ⟨by rw [gR_n (c := 4) H.2.2.1, H.2.2.2.2.1], ?_⟩
  rw [rI_n H.2.2.2.1 hw (by decide)]
  by_cases h5 : w < 5
  · rw [if_pos h5, H.2.2.2.2.2.1 w h5]
  · rw [if_neg h5]
    rcases (show w = 5 ∨ w = 6 ∨ w = 7 by omega) with rfl | rfl | rfl
    · rw [if_pos rfl, H.2.2.2.2.2.2.1]
    · rw [if_neg (by decide), if_pos rfl, H.2.2.2.2.2.2.2.1]
    · rw [if_neg (by decide), if_neg (by decide), H.2.2.2.2.2.2.2.2.1]
theorem HP.t0 {a : Nat} (H : HP g hn s a) : rI 1 g (a + 1) 0 = some (hI g 209 (5 * s)) := (H.trait (w := 0) (by decide)).2
theorem HP.t1 {a : Nat} (H : HP g hn s a) : rI 1 g (a + 1) 1 = some (hI g 209 (5 * s + 1)) := (H.trait (w := 1) (by decide)).2
theorem HP.t2 {a : Nat} (H : HP g hn s a) : rI 1 g (a + 1) 2 = some (hI g 209 (5 * s + 2)) := (H.trait (w := 2) (by decide)).2
theorem HP.t3 {a : Nat} (H : HP g hn s a) : rI 1 g (a + 1) 3 = some (hI g 209 (5 * s + 3)) := (H.trait (w := 3) (by decide)).2
theorem HP.t4 {a : Nat} (H : HP g hn s a) : rI 1 g (a + 1) 4 = some (hI g 209 (5 * s + 4)) := (H.trait (w := 4) (by decide)).2
theorem HP.t5 {a : Nat} (H : HP g hn s a) : rI 1 g (a + 1) 5 = some (hI g 206 s) := (H.trait (w := 5) (by decide)).2
theorem HP.t6 {a : Nat} (H : HP g hn s a) : rI 1 g (a + 1) 6 = some (hI g 207 s) := (H.trait (w := 6) (by decide)).2
theorem HP.t7 {a : Nat} (H : HP g hn s a) : rI 1 g (a + 1) 7 = some (hI g 208 s) := (H.trait (w := 7) (by decide)).2
theorem HP.tr {a : Nat} (H : HP g hn s a) : gR 4 g a 0 = some (some (a + 1)) := (H.trait (w := 0) (by decide)).1
theorem trust_C (hl : Lay h0) (rh : RHelp h0 hn ha) (f : Dfr ScG h0 g) (hs : s < hn) (hb' : GoB b) (G : GRel b g W tm) : f_Go_isTrusted g b (some (ha s)) = some (bI (okS h0 s W)) := by
  have lg := f.lay hl
  obtain ⟨-, H⟩ := (sc_help hl rh f).2.2.2 s hs
  obtain ⟨⟨k1, k2, k3⟩, ⟨r1, r2⟩, -, -⟩ := hb'.facts lg
  simp only [f_Go_isTrusted, Option.bind_some, H.tr, H.t5, H.t3, gI_n (c := 3) k1, G.1, cv_n (c := 3) k1, tnt_C lg hb' G.2.1, okS, sc_static f (a := 206) (k := s) (by omega), sc_static f (a := 209) (k := 5 * s + 3) (by omega)]
  exact ok_if _ _
theorem mayGo_M' (hl : Lay h0) (f : Dfr ScG h0 g) (hs : s < 8) (M : MRel g W) : f_M_mayGo g 201 (nI s) = some (bI (okS h0 s W)) := by
  have lg := f.lay hl
  have e3 : ((5 : Int32) * nI s) + (3 : Int32) = nI (5 * s + 3) := by rw [show (5 : Int32) = nI 5 from rfl, pk_mul]; exact nI_add (5 * s) 3
  simp only [f_M_mayGo, gR_n (kk201 lg), LR lg, Option.bind_some, rI_n (kk206 lg) hs (by decide), gI_n (kk201 lg), M.1, cv_n (kk201 lg), tnt_M lg M.2, e3, rI_n (kk209 lg) (show 5 * s + 3 < 40 by omega) (by decide), okS, sc_static f (a := 206) (k := s) (by omega), sc_static f (a := 209) (k := 5 * s + 3) (by omega)]
  exact ok_if _ _
theorem may_C' (hl : Lay h0) (rh : RHelp h0 hn ha) (f : Dfr ScG h0 g) (hs : s < hn) (hb' : GoB b) (G : GRel b g W tm) : f_Go_may g b (some (ha s)) (nI s) = some (bI (decide (nI (tm s) < hI h0 209 (5 * s + 2)) && okS h0 s W)) := by
  have lg := f.lay hl
  have h8 := rh.1
  obtain ⟨-, H⟩ := (sc_help hl rh f).2.2.2 s hs
  obtain ⟨⟨k1, k2, k3⟩, ⟨r1, r2⟩, -, -⟩ := hb'.facts lg
  simp only [f_Go_may, gR_n (c := 3) k1, r2, Option.bind_some, rI_n k3 (show s < 8 by omega) (by decide), G.2.2 s (by omega), H.tr, H.t2, cv_n (c := 3) k1, trust_C hl rh f hs hb' G, sc_static f (a := 209) (k := 5 * s + 2) (by omega)]
  by_cases q : nI (tm s) < hI h0 209 (5 * s + 2)
  · cases hq : okS h0 s W <;> simp [q, bI]
  · simp [q, bI]
theorem goF_C (hl : Lay g) (hb' : GoB b) (p2 : Int32) (w gv : Int32) {ρ : Type} (Q : ρ → Prop) (k : AH → Option ρ) (T : Nat → Int32) (lv : Nat → Int32) (hT : ∀ f, f < 12 → hI g (b + 1) f = T f) (hlv : ∀ f, f < 12 → hI g 109 f = lv f)
    (hk : ∀ g', Dfr (fun a _ => a = b + 1) g g' → (∀ f, f < 12 → hI g' (b + 1) f = goT T lv gv w f) → OK (k g') Q) : OK (f_Go_go_L45 b p2 (some 109) w gv k FU 0 g) Q := by
  obtain ⟨⟨k1, k2, k3⟩, ⟨r1, r2⟩, b1, b2⟩ := hb'.facts hl
  have main : ∀ n (s : Nat × AH), (s.1 ≤ 12 ∧ Dfr (fun a _ => a = b + 1) g s.2 ∧ ∀ f, f < 12 → hI s.2 (b + 1) f = if f < s.1 then goT T lv gv w f else T f) → 12 - s.1 < n → OK (f_Go_go_L45 b p2 (some 109) w gv k n (nI s.1) s.2) Q := by
    refine loopU (fun n (s : Nat × AH) => f_Go_go_L45 b p2 (some 109) w gv k n (nI s.1) s.2) _ (fun s => 12 - s.1) _ ?_
    intro n s ⟨h1, h2, h3⟩ ih
    obtain ⟨i, e⟩ := s
    dsimp only at h1 h2 h3 ih ⊢
    by_cases q : i < 12
    · have l8 : nI i < 12 := nI_lt (b := 12) q (by decide)
      have le := h2.lay hl
      have v1 : rI 1 e 109 (nI i) = some (lv i) := by rw [rI_n (kk109 le) q (by decide), h2.I (by omega), hlv i q]
      cases hq : hb gv i with
      | false =>
        have := ih (i + 1, e) ⟨by dsimp only; omega, h2, fun f hf => ?_⟩ (by dsimp only; omega)
        · simp only [f_Go_go_L45, l8, if_true, hasBit_C, hq, bI, Option.bind_some, nI_1, if_false]
          exact this
        · dsimp only
          rw [h3 f hf]
          by_cases e1 : f = i
          · subst e1
            rw [if_neg (by omega), if_pos (by omega), goT, if_neg (by simp [hq])]
          · by_cases e2 : f < i
            · rw [if_pos e2, if_pos (by omega)]
            · rw [if_neg e2, if_neg (by omega)]
      | true =>
        have := ih (i + 1, uI e (b + 1) i (if lv i < w then w else lv i)) ⟨by dsimp only; omega, h2.trans (Dfr.uI (by omega) rfl), fun f hf => ?_⟩ (by dsimp only; omega)
        · have k1e : hK e b = (103, 0) := (h2.K b).trans k1
          have k2e : hK e (b + 1) = (1, 12) := (h2.K _).trans k2
          have r1e : hR e b 1 = some (b + 1) := (h2.R _ _).trans r1
          simp only [f_Go_go_L45, l8, if_true, hasBit_C, hq, bI, Option.bind_some, nI_1, gR_n (c := 3) k1e, r1e, v1, wI_n (show 4 ≤ b + 1 by omega) k2e q (by decide), show ¬ ((1 : Int32) = 0) by decide, if_false]
          exact this
        · dsimp only
          by_cases e1 : f = i
          · subst e1
            rw [hI_eq, if_pos (show f < f + 1 by omega), goT, if_pos hq]
          · rw [hI_ne (by omega), h3 f hf]
            by_cases e2 : f < i
            · rw [if_pos e2, if_pos (by omega)]
            · rw [if_neg e2, if_neg (by omega)]
    · have : i = 12 := by omega
      subst this
      simp only [f_Go_go_L45, show ¬ nI 12 < 12 by decide, if_false]
      exact hk e h2 (fun f hf => by rw [h3 f hf, if_pos hf])
  exact main FU (0, g) ⟨by simp, Dfr.refl, fun f hf => by simp [hT f hf]⟩ (by show 12 - 0 < FU; decide)
theorem go_C (hl : Lay h0) (rh : RHelp h0 hn ha) (rl : RLev h0) (f : Dfr ScG h0 g) (hs : s < hn) (hb' : GoB b) (G : GRel b g W tm) : OK (f_Go_go g b (some (ha s)) (nI s) (some 109)) (fun g' => Dfr (ScB b) g g' ∧ GRel b g' (stp h0 s W) (fun x => if x = s then tm x + 1 else tm x)) := by
  have lg := f.lay hl
  have h8 := rh.1
  obtain ⟨-, H⟩ := (sc_help hl rh f).2.2.2 s hs
  obtain ⟨⟨k1, k2, k3⟩, ⟨r1, r2⟩, b1, b2⟩ := hb'.facts lg
  have rl' := sc_lev hl rl f
  have e6 := sc_static f (a := 206) (k := s) (by omega)
  have e7 := sc_static f (a := 207) (k := s) (by omega)
  have e8 := sc_static f (a := 208) (k := s) (by omega)
  obtain ⟨g1, eg1⟩ : ∃ g1, g1 = uI g b 0 (stp h0 s W).1 := ⟨_, rfl⟩
  have f1 : Dfr (ScB b) g g1 := by rw [eg1]; exact Dfr.uI (by omega) ⟨by omega, by omega⟩
  have l1 := f1.lay lg
  simp only [f_Go_go, Option.bind_some, H.tr, H.t5, H.t6, H.t7, cv_n (c := 3) k1, tnt_C lg hb' G.2.1, gI_n (c := 3) k1, G.1, pI_n (c := 3) k1, e6, e7, e8]
  show OK (f_Go_go_L45 b (nI s) (some 109) (wst W.2 (hI h0 206 s) 12) (hI h0 207 s) _ FU 0 (uI g b 0 (stp h0 s W).1)) _
  rw [← eg1]
  refine goF_C l1 hb' _ _ _ _ _ W.2 (hI h0 210) (fun x hx => ?_) (fun x hx => ?_) (fun g2 f2 v2 => ?_)
  · rw [eg1, hI_ne (by omega)]; exact G.2.1 x hx
  · rw [f1.I (by unfold ScB; omega), (rl' x hx).1, sc_static f (a := 210) (k := x) (by omega)]
  · have k1' : hK g2 b = (103, 0) := (f2.K b).trans ((f1.K b).trans k1)
    have k3' : hK g2 (b + 2) = (1, 8) := (f2.K _).trans ((f1.K _).trans k3)
    have r2' : hR g2 b 2 = some (b + 2) := (f2.R _ _).trans ((f1.R _ _).trans r2)
    have t2 : ∀ x, x < 8 → hI g2 (b + 2) x = nI (tm x) := fun x hx => by rw [f2.I (by omega), eg1, hI_ne (by omega)]; exact G.2.2 x hx
    refine OK.eq (a := uI g2 (b + 2) s (nI (tm s + 1))) ?_ ⟨?_, ?_, fun x hx => ?_, fun x hx => ?_⟩
    · simp only [gR_n (c := 3) k1', r2', Option.bind_some, rI_n k3' (show s < 8 by omega) (by decide), t2 s (by omega), nI_1, wI_n (show 4 ≤ b + 2 by omega) k3' (show s < 8 by omega) (by decide)]
    · exact (f1.trans (f2.mono (fun a k z => ⟨by omega, by omega⟩))).trans (Dfr.uI (by omega) ⟨by omega, by omega⟩)
    · rw [hI_ne (by omega), f2.I (by omega), eg1]; exact hI_eq
    · rw [hI_ne (by omega), v2 x hx]
      show _ = if x < 12 then _ else _
      rw [if_pos hx]
    · dsimp only
      by_cases e : x = s
      · subst e; rw [hI_eq, if_pos rfl]
      · rw [hI_ne (by omega), if_neg e]; exact t2 x hx
theorem goF_M (hl : Lay g) (hs : s < 8) (w gv : Int32) (T : Nat → Int32) (lv : Nat → Int32) (hT : ∀ f, f < 12 → hI g 232 f = T f) (hlv : ∀ f, f < 12 → hI g 210 f = lv f) (hgv : hI g 207 s = gv) : OK (f_M_goOne_L37 201 (nI s) w FU 0 g) (fun g' => Dfr (fun a _ => a = 232) g g' ∧ ∀ f, f < 12 → hI g' 232 f = goT T lv gv w f) := by
  have main : ∀ n (x : Nat × AH), (x.1 ≤ 12 ∧ Dfr (fun a _ => a = 232) g x.2 ∧ ∀ f, f < 12 → hI x.2 232 f = if f < x.1 then goT T lv gv w f else T f) → 12 - x.1 < n → OK (f_M_goOne_L37 201 (nI s) w n (nI x.1) x.2) (fun g' => Dfr (fun a _ => a = 232) g g' ∧ ∀ f, f < 12 → hI g' 232 f = goT T lv gv w f) := by
    refine loopU (fun n (x : Nat × AH) => f_M_goOne_L37 201 (nI s) w n (nI x.1) x.2) _ (fun x => 12 - x.1) _ ?_
    intro n x ⟨h1, h2, h3⟩ ih
    obtain ⟨i, e⟩ := x
    dsimp only at h1 h2 h3 ih ⊢
    by_cases q : i < 12
    · have l8 : nI i < 12 := nI_lt (b := 12) q (by decide)
      have le := h2.lay hl
      have v1 : rI 1 e 210 (nI i) = some (lv i) := by rw [rI_n (kk210 le) q (by decide), h2.I (by omega), hlv i q]
      have v2 : rI 1 e 207 (nI s) = some gv := by rw [rI_n (kk207 le) hs (by decide), h2.I (by omega), hgv]
      cases hq : hb gv i with
      | false =>
        have := ih (i + 1, e) ⟨by dsimp only; omega, h2, fun f hf => ?_⟩ (by dsimp only; omega)
        · simp only [f_M_goOne_L37, l8, if_true, gR_n (kk201 le), LR le, Option.bind_some, v2, hb_1, hq, nI_1, if_false, Bool.false_eq_true]
          exact this
        · dsimp only
          rw [h3 f hf]
          by_cases e1 : f = i
          · subst e1
            rw [if_neg (by omega), if_pos (by omega), goT, if_neg (by simp [hq])]
          · by_cases e2 : f < i
            · rw [if_pos e2, if_pos (by omega)]
            · rw [if_neg e2, if_neg (by omega)]
      | true =>
        have := ih (i + 1, uI e 232 i (if lv i < w then w else lv i)) ⟨by dsimp only; omega, h2.trans (Dfr.uI (by omega) rfl), fun f hf => ?_⟩ (by dsimp only; omega)
        · have e9 : (if w < lv i then (some (lv i) : Option Int32) else some w) = some (if lv i < w then w else lv i) := by rw [← mx32]; split <;> rfl
          simp only [f_M_goOne_L37, l8, if_true, gR_n (kk201 le), LR le, Option.bind_some, v2, hb_1, hq, nI_1, v1, e9, wI_n (show 4 ≤ 232 by decide) (kk232 le) q (by decide)]
          exact this
        · dsimp only
          by_cases e1 : f = i
          · subst e1
            rw [hI_eq, if_pos (show f < f + 1 by omega), goT, if_pos hq]
          · rw [hI_ne (by omega), h3 f hf]
            by_cases e2 : f < i
            · rw [if_pos e2, if_pos (by omega)]
            · rw [if_neg e2, if_neg (by omega)]
    · have : i = 12 := by omega
      subst this
      refine OK.eq (a := e) (by simp only [f_M_goOne_L37, show ¬ nI 12 < 12 by decide, if_false]) ⟨h2, fun f hf => by rw [h3 f hf, if_pos hf]⟩
  exact main FU (0, g) ⟨by simp, Dfr.refl, fun f hf => by simp [hT f hf]⟩ (by show 12 - 0 < FU; decide)
theorem go_M (hl : Lay h0) (f : Dfr ScG h0 g) (hs : s < 8) (M : MRel g W) : OK (f_M_goOne g 201 (nI s)) (fun g' => Dfr ScM g g' ∧ MRel g' (stp h0 s W)) := by
  have lg := f.lay hl
  have e6 := sc_static f (a := 206) (k := s) (by omega)
  have e7 := sc_static f (a := 207) (k := s) (by omega)
  have e8 := sc_static f (a := 208) (k := s) (by omega)
  obtain ⟨g1, eg1⟩ : ∃ g1, g1 = uI g 201 51 (stp h0 s W).1 := ⟨_, rfl⟩
  have f1 : Dfr ScM g g1 := by rw [eg1]; exact Dfr.uI (by omega) (Or.inl ⟨rfl, rfl⟩)
  have l1 := f1.lay lg
  obtain ⟨g2, e2, f2, v2⟩ := goF_M l1 hs (wst W.2 (hI h0 206 s) 12) (hI h0 207 s) W.2 (hI h0 210) (fun x hx => by rw [eg1, hI_ne (by omega)]; exact M.2 x hx) (fun x hx => by rw [f1.I (by unfold ScM; omega), sc_static f (a := 210) (k := x) (by omega)]) (by rw [f1.I (by unfold ScM; omega), e7])
  refine OK.eq (a := g2) ?_ ⟨f1.trans (f2.mono (fun a k z => Or.inr z)), ?_, fun x hx => ?_⟩
  · simp only [f_M_goOne, gR_n (kk201 lg), LR lg, Option.bind_some, rI_n (kk206 lg) hs (by decide), rI_n (kk207 lg) hs (by decide), rI_n (kk208 lg) hs (by decide), e6, e7, e8, cv_n (kk201 lg), tnt_M lg M.2, gI_n (kk201 lg), M.1, pI_n (kk201 lg)]
    rw [← e2, eg1]
    rfl
  · rw [f2.I (by omega), eg1]; exact hI_eq
  · rw [v2 x hx]
    show _ = if x < 12 then _ else _
    rw [if_pos hx]
end GO
