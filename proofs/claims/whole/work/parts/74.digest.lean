/-! THE DIGEST -/
def mxF (f : Nat → Int32) (D : Int64) : Nat → Int64
  | 0 => D
  | i + 1 => (31 : Int64) * mxF f D i + (f i).toInt64
theorem mxF_cong {f f' : Nat → Int32} (D : Int64) : ∀ n, (∀ i, i < n → f i = f' i) → mxF f D n = mxF f' D n
  | 0, _ => rfl
  | n + 1, e => by simp only [mxF]; rw [mxF_cong D n (fun i hi => e i (by omega)), e n (by omega)]
def mxS (h : AH) (t : Nat) (D : Int64) (s : Nat) : Int64 := mxF (fun k => nx h t s k) ((31 : Int64) * D + (en h t s).toInt64) 16
def mxT (h : AH) (t : Nat) (D : Int64) : Nat → Int64
  | 0 => D
  | i + 1 => mxS h t (mxT h t D i) i
def mxTs (h : AH) (ts : Nat → Nat) (D : Int64) : Nat → Int64
  | 0 => D
  | t + 1 => mxT h t ((31 : Int64) * mxTs h ts D t + (nI (ts t)).toInt64) (ts t + 1)
def mxH (h : AH) (ha : Nat → Nat) (D : Int64) : Nat → Int64
  | 0 => D
  | s + 1 => mxF (hI h (ha s + 1)) (mxH h ha D s) 8
def SDg (a k : Nat) : Prop := (a = 201 ∧ k = 57) ∨ a = 235 ∨ a = 236
section DG
variable {h g : AH} {tn pn hn rn ev : Nat} {ta ts pg ha : Nat → Nat} {D : Int64}
theorem mixed_C {a len n : Nat} (hk : hK h a = (1, len)) (hl : len < 2 ^ 31) (hn' : n ≤ len) (D : Int64) : f_C_mixed h D (some a) (nI n) = some (mxF (hI h a) D n) := by
  have al : alen 1 h a = some (nI len) := by unfold alen; rw [hk]; rfl
  have main : ∀ d i m, i + d = n → d < m → f_C_mixed_L3 h (some a) (nI n) m (mxF (hI h a) D i) (nI i) = some (mxF (hI h a) D n) := by
    intro d
    induction d with
    | zero =>
      intro i m h1 h2
      obtain ⟨m, rfl⟩ : ∃ q, m = q + 1 := ⟨m - 1, by omega⟩
      have : i = n := by omega
      subst this
      simp only [f_C_mixed_L3, nI_nlt (Nat.le_refl i) (by omega), if_false]
    | succ d ih =>
      intro i m h1 h2
      obtain ⟨m, rfl⟩ : ∃ q, m = q + 1 := ⟨m - 1, by omega⟩
      simp only [f_C_mixed_L3, nI_lt (show i < n by omega) (by omega), if_true, Option.bind_some, al, nI_lt (show i < len by omega) hl, rI_n hk (show i < len by omega) hl, nI_1]
      exact ih (i + 1) m (by omega) (by omega)
  exact main n 0 FU (by omega) (by unfold FU; omega)
theorem state_C {t a n s : Nat} (T : TK h t a n) (hs : s ≤ n) {ρ : Type} (k : Int64 → Option ρ) (D : Int64) : f_Ta_mixedInto_L46 h a (nI s) k FU D 0 = k (mxF (fun k => nx h t s k) D 16) := by
  have n24 := T.1
  have main : ∀ d i m, i + d = 16 → d < m → f_Ta_mixedInto_L46 h a (nI s) k m (mxF (fun k => nx h t s k) D i) (nI i) = k (mxF (fun k => nx h t s k) D 16) := by
    intro d
    induction d with
    | zero =>
      intro i m h1 h2
      obtain ⟨m, rfl⟩ : ∃ q, m = q + 1 := ⟨m - 1, by omega⟩
      have : i = 16 := by omega
      subst this
      simp only [f_Ta_mixedInto_L46, show ¬ nI 16 < 16 by decide, if_false]
    | succ d ih =>
      intro i m h1 h2
      obtain ⟨m, rfl⟩ : ∃ q, m = q + 1 := ⟨m - 1, by omega⟩
      have q : nI i < 16 := nI_lt (b := 16) (by omega) (by decide)
      have ix : (nI s * (16 : Int32)) + nI i = nI (16 * s + i) := by rw [show (16 : Int32) = nI 16 from rfl, pk_mul, nI_add, Nat.mul_comm]
      have e := (T.2.2.2.2.2.2.2.1 s hs i (by omega)).1
      simp only [f_Ta_mixedInto_L46, q, if_true, gR_n (c := 9) T.2.2.2.1.1, T.2.2.2.2.1.1, Option.bind_some, ix, rI_n T.2.2.2.1.2.1 (show 16 * s + i < 16 * (n + 1) by omega) (by omega), e, nI_1]
      exact ih (i + 1) m (by omega) (by omega)
  exact main 16 0 FU rfl (by unfold FU; omega)
theorem talkD_C (rt : RTalks h tn ta ts) {t : Nat} (ht : t < tn) (D : Int64) : f_Ta_mixedInto h (ta t) D = some (mxT h t ((31 : Int64) * D + (nI (ts t)).toInt64) (ts t + 1)) := by
  have T := (rt.2.2.2 t ht).2
  have n24 := T.1
  have main : ∀ d i m D, i + d = ts t + 1 → d < m → f_Ta_mixedInto_L14 h (ta t) m (mxT h t D i) (nI i) = some (mxT h t D (ts t + 1)) := by
    intro d
    induction d with
    | zero =>
      intro i m D h1 h2
      obtain ⟨m, rfl⟩ : ∃ q, m = q + 1 := ⟨m - 1, by omega⟩
      have : i = ts t + 1 := by omega
      subst this
      simp only [f_Ta_mixedInto_L14, T.steps, Option.bind_some, nI_lt (show ts t < ts t + 1 by omega) (by omega), if_true]
    | succ d ih =>
      intro i m D h1 h2
      obtain ⟨m, rfl⟩ : ∃ q, m = q + 1 := ⟨m - 1, by omega⟩
      have hi : i ≤ ts t := by omega
      have e5 : ((if en h t i = (0 : Int32) then some (0 : Int32) else some (1 : Int32)) : Option Int32) = some (en h t i) := by
        rcases T.en01 hi with e | e <;> rw [e] <;> rfl
      simp only [f_Ta_mixedInto_L14, T.steps, Option.bind_some, nI_nlt (show i ≤ ts t by omega) (by omega), if_false, cv_n (c := 9) T.2.2.2.1.1, mayEnd_C rt ht hi, e5, state_C T hi, nI_1]
      exact ih (i + 1) m D (by omega) (by omega)
  simp only [f_Ta_mixedInto, T.steps, Option.bind_some]
  exact main (ts t + 1) 0 FU _ (by omega) (by unfold FU; omega)
theorem mix_M (hl : Lay g) (v : Int64) : f_M_mix g 201 v = some (uJ g 201 57 ((31 : Int64) * hJ g 201 57 + v)) := by
  simp only [f_M_mix, gJ_n (kk201 hl), pJ_n (kk201 hl), Option.bind_some]
/-- a reference heap on its way through the digest -/
def DR (h g : AH) (D : Int64) : Prop := Dfr SDg h g ∧ hJ g 201 57 = D
theorem DR.mix (r : DR h g D) (v : Int64) : DR h (uJ g 201 57 ((31 : Int64) * hJ g 201 57 + v)) ((31 : Int64) * D + v) := by
  refine ⟨r.1.trans (Dfr.uJ (by decide) (Or.inl ⟨rfl, rfl⟩)), ?_⟩
  rw [hJ_u, if_pos ⟨rfl, rfl⟩, r.2]
theorem page_M (hl : Lay h) (rp : RPage h pn pg) {ρ : Type} {Q : ρ → Prop} (k : AH → Option ρ) (r : DR h g D) (hk : ∀ g', DR h g' (mxF (hI h 6) D pn) → OK (k g') Q) : OK (f_M_digest_L9 201 k FU 0 g) Q := by
  have h80 := rp.1
  have main : ∀ n (s : Nat × AH), (s.1 ≤ pn ∧ DR h s.2 (mxF (hI h 6) D s.1)) → pn - s.1 < n → OK (f_M_digest_L9 201 k n (nI s.1) s.2) Q := by
    refine loopU (fun n (s : Nat × AH) => f_M_digest_L9 201 k n (nI s.1) s.2) _ (fun s => pn - s.1) _ ?_
    intro n s ⟨h1, h2⟩ ih
    obtain ⟨i, g⟩ := s
    dsimp only at h1 h2 ih ⊢
    have lg := h2.1.lay hl
    have e0 : hI g 201 0 = nI pn := by rw [h2.1.I (by unfold SDg; omega)]; exact rp.2.2.1
    by_cases q : i < pn
    · have e1 : hI g 202 i = hI h 6 i := by rw [h2.1.I (by unfold SDg; omega), (rp.2.2.2 i q).2.2.2, (rp.2.2.2 i q).2.2.1]
      simp only [f_M_digest_L9, gI_n (kk201 lg), e0, Option.bind_some, nI_lt q (by omega), if_true, gR_n (kk201 lg), LR lg, rI_n (kk202 lg) (show i < 80 by omega) (by decide), e1, cv_n (kk201 lg), mix_M lg, nI_1]
      exact ih (i + 1, _) ⟨by dsimp only; omega, h2.mix _⟩ (by dsimp only; omega)
    · have : i = pn := by omega
      subst this
      simp only [f_M_digest_L9, gI_n (kk201 lg), e0, Option.bind_some, nI_nlt (Nat.le_refl i) (by omega), if_false]
      exact hk g h2
  exact main FU (0, g) ⟨by simp, r⟩ (by show pn - 0 < FU; unfold FU; omega)
theorem levels_M (hl : Lay h) (rl : RLev h) {ρ : Type} {Q : ρ → Prop} (k : AH → Option ρ) (r : DR h g D) (hk : ∀ g', DR h g' (mxF (hI h 109) D 12) → OK (k g') Q) : OK (f_M_digest_L98 201 k FU 0 g) Q := by
  have main : ∀ n (s : Nat × AH), (s.1 ≤ 12 ∧ DR h s.2 (mxF (hI h 109) D s.1)) → 12 - s.1 < n → OK (f_M_digest_L98 201 k n (nI s.1) s.2) Q := by
    refine loopU (fun n (s : Nat × AH) => f_M_digest_L98 201 k n (nI s.1) s.2) _ (fun s => 12 - s.1) _ ?_
    intro n s ⟨h1, h2⟩ ih
    obtain ⟨i, g⟩ := s
    dsimp only at h1 h2 ih ⊢
    have lg := h2.1.lay hl
    by_cases q : i < 12
    · have qi : nI i < 12 := nI_lt (b := 12) q (by decide)
      have e1 : hI g 210 i = hI h 109 i := by rw [h2.1.I (by unfold SDg; omega), (rl i q).1]
      simp only [f_M_digest_L98, Option.bind_some, qi, if_true, gR_n (kk201 lg), LR lg, rI_n (kk210 lg) q (by decide), e1, cv_n (kk201 lg), mix_M lg, nI_1]
      exact ih (i + 1, _) ⟨by dsimp only; omega, h2.mix _⟩ (by dsimp only; omega)
    · have : i = 12 := by omega
      subst this
      simp only [f_M_digest_L98, show ¬ nI 12 < 12 by decide, if_false]
      exact hk g h2
  exact main FU (0, g) ⟨by simp, r⟩ (by show 12 - 0 < FU; unfold FU; omega)
theorem rowD_M (hl : Lay h) (rr : RRow h hn rn) {ρ : Type} {Q : ρ → Prop} (k : AH → Option ρ) (r : DR h g D) (hk : ∀ g', DR h g' (mxF (hI h 110) D rn) → OK (k g') Q) : OK (f_M_digest_L123 201 k FU 0 g) Q := by
  have h5 := rr.1
  have main : ∀ n (s : Nat × AH), (s.1 ≤ rn ∧ DR h s.2 (mxF (hI h 110) D s.1)) → rn - s.1 < n → OK (f_M_digest_L123 201 k n (nI s.1) s.2) Q := by
    refine loopU (fun n (s : Nat × AH) => f_M_digest_L123 201 k n (nI s.1) s.2) _ (fun s => rn - s.1) _ ?_
    intro n s ⟨h1, h2⟩ ih
    obtain ⟨i, g⟩ := s
    dsimp only at h1 h2 ih ⊢
    have lg := h2.1.lay hl
    have e0 : hI g 201 15 = nI rn := by rw [h2.1.I (by unfold SDg; omega)]; exact rr.2.2.1
    by_cases q : i < rn
    · have e1 : hI g 211 i = hI h 110 i := by rw [h2.1.I (by unfold SDg; omega), (rr.2.2.2 i q).1]
      simp only [f_M_digest_L123, gI_n (kk201 lg), e0, Option.bind_some, nI_lt q (by omega), if_true, gR_n (kk201 lg), LR lg, rI_n (kk211 lg) (show i < 5 by omega) (by decide), e1, cv_n (kk201 lg), mix_M lg, nI_1]
      exact ih (i + 1, _) ⟨by dsimp only; omega, h2.mix _⟩ (by dsimp only; omega)
    · have : i = rn := by omega
      subst this
      simp only [f_M_digest_L123, gI_n (kk201 lg), e0, Option.bind_some, nI_nlt (Nat.le_refl i) (by omega), if_false]
      exact hk g h2
  exact main FU (0, g) ⟨by simp, r⟩ (by show rn - 0 < FU; unfold FU; omega)
theorem about_M (hl : Lay h) {s a w : Nat} (hs : s < 8) (H : HP h hn s a) (f : Dfr SDg h g) (hw : w < 8) : f_M_aboutOf g 201 (nI s) (nI w) = some (hI h (a + 1) w) := by
  have lg := f.lay hl
  obtain ⟨g1, g2, g3, g4, g5, g6, g7, g8, g9, -⟩ := H
  simp only [f_M_aboutOf, gR_n (kk201 lg), LR lg, Option.bind_some]
  by_cases h5 : w < 5
  · rw [show (5 : Int32) = nI 5 from rfl, if_pos (nI_lt h5 (by decide)), pk_mul, nI_add, rI_n (kk209 lg) (by omega) (by decide), g6 w h5, f.I (by unfold SDg; omega)]; rfl
  · rw [show (5 : Int32) = nI 5 from rfl, if_neg (nI_nlt (by omega) (by omega))]
    rcases (show w = 5 ∨ w = 6 ∨ w = 7 by omega) with rfl | rfl | rfl
    · rw [if_pos rfl, rI_n (kk206 lg) (by omega) (by decide), g7, f.I (by unfold SDg; omega)]; rfl
    · rw [if_neg (by decide), if_pos (show nI 6 = 6 from rfl), rI_n (kk207 lg) (by omega) (by decide), g8, f.I (by unfold SDg; omega)]; rfl
    · rw [if_neg (by decide), if_neg (by decide), rI_n (kk208 lg) (by omega) (by decide), g9, f.I (by unfold SDg; omega)]; rfl
theorem helpD_M (hl : Lay h) (rh : RHelp h hn ha) {ρ : Type} {Q : ρ → Prop} (k : AH → Option ρ) (r : DR h g D) (hk : ∀ g', DR h g' (mxH h ha D hn) → OK (k g') Q) : OK (f_M_digest_L57 201 k FU 0 g) Q := by
  have h8 := rh.1
  have inner : ∀ (s : Nat) (hs : s < hn) (k : AH → Option ρ) (D : Int64), (∀ g', DR h g' (mxF (hI h (ha s + 1)) D 8) → OK (k g') Q) → ∀ n (z : Nat × AH), (z.1 ≤ 8 ∧ DR h z.2 (mxF (hI h (ha s + 1)) D z.1)) → 8 - z.1 < n → OK (f_M_digest_L67 201 (nI s) k n (nI z.1) z.2) Q := by
    intro s hs k D hk
    refine loopU (fun n (z : Nat × AH) => f_M_digest_L67 201 (nI s) k n (nI z.1) z.2) _ (fun z => 8 - z.1) _ ?_
    intro n z ⟨h1, h2⟩ ih
    obtain ⟨i, g⟩ := z
    dsimp only at h1 h2 ih ⊢
    have lg := h2.1.lay hl
    by_cases q : i < 8
    · have qi : nI i < 8 := nI_lt (b := 8) q (by decide)
      simp only [f_M_digest_L67, Option.bind_some, qi, if_true, cv_n (kk201 lg), about_M hl (show s < 8 by omega) (rh.2.2.2 s hs).2 h2.1 q, mix_M lg, nI_1]
      exact ih (i + 1, _) ⟨by dsimp only; omega, h2.mix _⟩ (by dsimp only; omega)
    · have : i = 8 := by omega
      subst this
      simp only [f_M_digest_L67, show ¬ nI 8 < 8 by decide, if_false]
      exact hk g h2
  have main : ∀ n (z : Nat × AH), (z.1 ≤ hn ∧ DR h z.2 (mxH h ha D z.1)) → hn - z.1 < n → OK (f_M_digest_L57 201 k n (nI z.1) z.2) Q := by
    refine loopU (fun n (z : Nat × AH) => f_M_digest_L57 201 k n (nI z.1) z.2) _ (fun z => hn - z.1) _ ?_
    intro n z ⟨h1, h2⟩ ih
    obtain ⟨i, g⟩ := z
    dsimp only at h1 h2 ih ⊢
    have lg := h2.1.lay hl
    have e0 : hI g 201 9 = nI hn := by rw [h2.1.I (by unfold SDg; omega)]; exact rh.2.2.1
    by_cases q : i < hn
    · simp only [f_M_digest_L57, gI_n (kk201 lg), e0, Option.bind_some, nI_lt q (by omega), if_true, nI_1]
      refine inner i q _ (mxH h ha D i) (fun g' r' => ?_) FU (0, g) ⟨by simp, h2⟩ (by show 8 - 0 < FU; unfold FU; omega)
      exact ih (i + 1, g') ⟨by dsimp only; omega, r'⟩ (by dsimp only; omega)
    · have : i = hn := by omega
      subst this
      simp only [f_M_digest_L57, gI_n (kk201 lg), e0, Option.bind_some, nI_nlt (Nat.le_refl i) (by omega), if_false]
      exact hk g h2
  exact main FU (0, g) ⟨by simp, r⟩ (by show hn - 0 < FU; unfold FU; omega)
theorem talkD_M (hl : Lay h) (rt : RTalks h tn ta ts) {t : Nat} (ht : t < tn) (r : DR h g D) : OK (f_M_mixTalk g 201 (nI t)) (fun g' => DR h g' (mxT h t ((31 : Int64) * D + (nI (ts t)).toInt64) (ts t + 1))) := by
  have h6 := rt.1
  have T := (rt.2.2.2 t ht).2
  have n24 := T.1
  have inner : ∀ (s : Nat) (hs : s ≤ ts t) (k : AH → Option AH) (Q : AH → Prop) (D : Int64), (∀ g', DR h g' (mxF (fun k => nx h t s k) D 16) → OK (k g') Q) → ∀ n (z : Nat × AH), (z.1 ≤ 16 ∧ DR h z.2 (mxF (fun k => nx h t s k) D z.1)) → 16 - z.1 < n → OK (f_M_mixTalk_L48 201 (nI t) (nI s) k n (nI z.1) z.2) Q := by
    intro s hs k Q D hk
    refine loopU (fun n (z : Nat × AH) => f_M_mixTalk_L48 201 (nI t) (nI s) k n (nI z.1) z.2) _ (fun z => 16 - z.1) _ ?_
    intro n z ⟨h1, h2⟩ ih
    obtain ⟨i, g⟩ := z
    dsimp only at h1 h2 ih ⊢
    have lg := h2.1.lay hl
    by_cases q : i < 16
    · have qi : nI i < 16 := nI_lt (b := 16) q (by decide)
      have pl : f_M_place g (nI t) (nI s) (0 : Int32) (nI i) = some (nI (400 * t + 16 * s + i)) := by
        have := place_M g t s 0 i
        rw [show 8 * 0 + i = i by omega] at this
        exact this
      have ev : nx g t s i = nx h t s i := h2.1.I (by unfold SDg; omega)
      simp only [f_M_mixTalk_L48, Option.bind_some, qi, if_true, gR_n (kk201 lg), LR lg, pl, next_M lg (show t < 6 by omega) (show s ≤ 24 by omega) q, ev, cv_n (kk201 lg), mix_M lg, nI_1]
      exact ih (i + 1, _) ⟨by dsimp only; omega, h2.mix _⟩ (by dsimp only; omega)
    · have : i = 16 := by omega
      subst this
      simp only [f_M_mixTalk_L48, show ¬ nI 16 < 16 by decide, if_false]
      exact hk g h2
  have main : ∀ D n (z : Nat × AH), (z.1 ≤ ts t + 1 ∧ DR h z.2 (mxT h t D z.1)) → ts t + 1 - z.1 < n → OK (f_M_mixTalk_L13 201 (nI t) n (nI z.1) z.2) (fun g' => DR h g' (mxT h t D (ts t + 1))) := by
    intro D
    refine loopU (fun n (z : Nat × AH) => f_M_mixTalk_L13 201 (nI t) n (nI z.1) z.2) _ (fun z => ts t + 1 - z.1) _ ?_
    intro n z ⟨h1, h2⟩ ih
    obtain ⟨i, g⟩ := z
    dsimp only at h1 h2 ih ⊢
    have lg := h2.1.lay hl
    have e0 : hI g 203 t = nI (ts t) := by rw [h2.1.I (by unfold SDg; omega)]; exact T.2.2.2.2.2.2.1
    by_cases q : i ≤ ts t
    · have ix : ((25 : Int32) * nI t) + nI i = nI (25 * t + i) := by rw [show (25 : Int32) = nI 25 from rfl, pk_mul, nI_add]
      have e1 : hI g 205 (25 * t + i) = en h t i := h2.1.I (by unfold SDg; omega)
      have e5 : ((if en h t i = (0 : Int32) then some (0 : Int64) else some (1 : Int64)) : Option Int64) = some (en h t i).toInt64 := by
        rcases T.en01 q with e | e <;> rw [e] <;> rfl
      simp only [f_M_mixTalk_L13, gR_n (kk201 lg), LR lg, Option.bind_some, rI_n (kk203 lg) (show t < 6 by omega) (by decide), e0, nI_nlt q (by omega), if_false, ix, rI_n (kk205 lg) (show 25 * t + i < 150 by omega) (by decide), e1, e5, cv_n (kk201 lg), mix_M lg, nI_1]
      refine inner i q _ _ _ (fun g' r' => ?_) FU (0, _) ⟨by simp, h2.mix _⟩ (by show 16 - 0 < FU; unfold FU; omega)
      exact ih (i + 1, g') ⟨by dsimp only; omega, r'⟩ (by dsimp only; omega)
    · have : i = ts t + 1 := by omega
      subst this
      simp only [f_M_mixTalk_L13, gR_n (kk201 lg), LR lg, Option.bind_some, rI_n (kk203 lg) (show t < 6 by omega) (by decide), e0, nI_lt (show ts t < ts t + 1 by omega) (by omega), if_true]
      exact OK.mk h2
  have lg := r.1.lay hl
  have e0 : hI g 203 t = nI (ts t) := by rw [r.1.I (by unfold SDg; omega)]; exact T.2.2.2.2.2.2.1
  simp only [f_M_mixTalk, gR_n (kk201 lg), LR lg, Option.bind_some, rI_n (kk203 lg) (show t < 6 by omega) (by decide), e0, cv_n (kk201 lg), mix_M lg]
  exact main _ FU (0, _) ⟨by simp, r.mix _⟩ (by show ts t + 1 - 0 < FU; unfold FU; omega)
theorem talksD_M (hl : Lay h) (rt : RTalks h tn ta ts) {ρ : Type} {Q : ρ → Prop} (k : AH → Option ρ) (r : DR h g D) (hk : ∀ g', DR h g' (mxTs h ts D tn) → OK (k g') Q) : OK (f_M_digest_L36 201 k FU 0 g) Q := by
  have h6 := rt.1
  have main : ∀ n (z : Nat × AH), (z.1 ≤ tn ∧ DR h z.2 (mxTs h ts D z.1)) → tn - z.1 < n → OK (f_M_digest_L36 201 k n (nI z.1) z.2) Q := by
    refine loopU (fun n (z : Nat × AH) => f_M_digest_L36 201 k n (nI z.1) z.2) _ (fun z => tn - z.1) _ ?_
    intro n z ⟨h1, h2⟩ ih
    obtain ⟨i, g⟩ := z
    dsimp only at h1 h2 ih ⊢
    have lg := h2.1.lay hl
    have e0 : hI g 201 2 = nI tn := by rw [h2.1.I (by unfold SDg; omega)]; exact rt.2.2.1
    by_cases q : i < tn
    · obtain ⟨g2, e2, r2⟩ := talkD_M hl rt q h2
      simp only [f_M_digest_L36, gI_n (kk201 lg), e0, Option.bind_some, nI_lt q (by omega), if_true, cv_n (kk201 lg), e2, nI_1]
      exact ih (i + 1, g2) ⟨by dsimp only; omega, r2⟩ (by dsimp only; omega)
    · have : i = tn := by omega
      subst this
      simp only [f_M_digest_L36, gI_n (kk201 lg), e0, Option.bind_some, nI_nlt (Nat.le_refl i) (by omega), if_false]
      exact hk g h2
  exact main FU (0, g) ⟨by simp, r⟩ (by show tn - 0 < FU; unfold FU; omega)
theorem talksD_C (hl : Lay h) (rt : RTalks h tn ta ts) {ρ : Type} (k : Int64 → Option ρ) (D : Int64) : f_C_digest_L25 h 4 k FU D 0 = k (mxTs h ts D tn) := by
  have h6 := rt.1
  have main : ∀ d i m, i + d = tn → d < m → f_C_digest_L25 h 4 k m (mxTs h ts D i) (nI i) = k (mxTs h ts D tn) := by
    intro d
    induction d with
    | zero =>
      intro i m h1 h2
      obtain ⟨m, rfl⟩ : ∃ q, m = q + 1 := ⟨m - 1, by omega⟩
      have : i = tn := by omega
      subst this
      simp only [f_C_digest_L25, gI_n (kk4 hl), rt.2.1, Option.bind_some, nI_nlt (Nat.le_refl i) (by omega), if_false]
    | succ d ih =>
      intro i m h1 h2
      obtain ⟨m, rfl⟩ : ∃ q, m = q + 1 := ⟨m - 1, by omega⟩
      have q : i < tn := by omega
      have T := (rt.2.2.2 i q)
      simp only [f_C_digest_L25, gI_n (kk4 hl), rt.2.1, Option.bind_some, nI_lt q (by omega), if_true, gR_n (kk4 hl), LR hl, rR_n (c := 9) (kk91 hl) (show i < 6 by omega) (by decide), T.1, cv_n (c := 9) T.2.2.2.2.1.1, talkD_C rt q, nI_1]
      exact ih (i + 1) m (by omega) (by omega)
  exact main tn 0 FU (by omega) (by unfold FU; omega)
theorem helpD_C (hl : Lay h) (rh : RHelp h hn ha) {ρ : Type} (k : Int64 → Option ρ) (D : Int64) : f_C_digest_L52 h 4 k FU D 0 = k (mxH h ha D hn) := by
  have h8 := rh.1
  have main : ∀ d i m, i + d = hn → d < m → f_C_digest_L52 h 4 k m (mxH h ha D i) (nI i) = k (mxH h ha D hn) := by
    intro d
    induction d with
    | zero =>
      intro i m h1 h2
      obtain ⟨m, rfl⟩ : ∃ q, m = q + 1 := ⟨m - 1, by omega⟩
      have : i = hn := by omega
      subst this
      simp only [f_C_digest_L52, gR_n (kk4 hl), LR hl, gI_n (c := 8) (kk107 hl), rh.2.1, Option.bind_some, nI_nlt (Nat.le_refl i) (by omega), if_false]
    | succ d ih =>
      intro i m h1 h2
      obtain ⟨m, rfl⟩ : ∃ q, m = q + 1 := ⟨m - 1, by omega⟩
      have q : i < hn := by omega
      have T := (rh.2.2.2 i q)
      have mx := mixed_C (n := 8) T.2.2.2.2.1 (by decide) (Nat.le_refl _) (mxH h ha D i)
      have mx' : f_C_mixed h (mxH h ha D i) (some (ha i + 1)) (8 : Int32) = some (mxF (hI h (ha i + 1)) (mxH h ha D i) 8) := mx
      simp only [f_C_digest_L52, gR_n (kk4 hl), LR hl, gI_n (c := 8) (kk107 hl), rh.2.1, Option.bind_some, nI_lt q (by omega), if_true, gR_n (c := 8) (kk107 hl), rR_n (c := 4) (kk108 hl) (show i < 8 by omega) (by decide), T.1, T.2.tr, mx', nI_1]
      exact ih (i + 1) m (by omega) (by omega)
  exact main hn 0 FU (by omega) (by unfold FU; omega)
theorem o_digest (hl : Lay h) (rt : RTalks h tn ta ts) (rp : RPage h pn pg) (rh : RHelp h hn ha) (rl : RLev h) (rr : RRow h hn rn) (rc : RCnt h) (rg : RLog h hn ev) : ∃ r h2, f_C_digest h 4 = some r ∧ f_M_digest h 201 = some (r, h2) ∧ Dfr SDg h h2 := by
  have h30 := rg.1
  have h80 := rp.1
  have h5 := rr.1
  obtain ⟨⟨n1, a1, a2, a3⟩, ⟨n2, b1, b2, b3⟩, ⟨n3, c1, c2, c3⟩⟩ := rc
  obtain ⟨DC, eD⟩ : ∃ DC, DC = (31 : Int64) * ((31 : Int64) * ((31 : Int64) * ((31 : Int64) * ((31 : Int64) * mxF (hI h 110) (mxF (hI h 109) (mxH h ha (mxTs h ts (mxF (hI h 6) 211 pn) tn) hn) 12) rn + (nI ev).toInt64) + (nI (cnS (wld h ev) 4096)).toInt64) + (nI n1).toInt64) + (nI n2).toInt64) + (nI n3).toInt64 := ⟨_, rfl⟩
  have C : f_C_digest h 4 = some DC := by
    have wo := hl.wo (show ev < 31 by omega)
    have m1 : ∀ D, f_C_mixed h D (some 109) (12 : Int32) = some (mxF (hI h 109) D 12) := mixed_C (n := 12) (kk109 hl) (by decide) (Nat.le_refl _)
    simp only [f_C_digest, gR_n (kk4 hl), LR hl, gR_n (c := 7) (kk5 hl), gI_n (c := 7) (kk5 hl), rp.2.1, Option.bind_some, mixed_C (kk6 hl) (by decide) h80]
    rw [talksD_C hl rt, helpD_C hl rh]
    simp only [gR_n (kk4 hl), LR hl, gR_n (c := 8) (kk107 hl), gI_n (c := 8) (kk107 hl), rr.2.1, Option.bind_some, m1, mixed_C (kk110 hl) (by decide) h5, gI_n (c := 6) (kk135 hl), rg.2.1, cv_n (c := 6) (kk135 hl), last_C hl rg, cv_n (c := 11) wo.1, size_C wo (rg.wr (Nat.le_refl ev)), gI_n (kk4 hl), a2, b2, c2]
    rw [eD]
  have M : OK (f_M_digest h 201) (fun q => q.1 = DC ∧ Dfr SDg h q.2) := by
    have r0 : DR h (uJ h 201 57 211) 211 := ⟨Dfr.uJ (by decide) (Or.inl ⟨rfl, rfl⟩), by rw [hJ_u, if_pos ⟨rfl, rfl⟩]⟩
    simp only [f_M_digest, pJ_n (kk201 hl), Option.bind_some]
    refine page_M hl rp _ r0 (fun g1 r1 => ?_)
    refine talksD_M hl rt _ r1 (fun g2 r2 => ?_)
    refine helpD_M hl rh _ r2 (fun g3 r3 => ?_)
    refine levels_M hl rl _ r3 (fun g4 r4 => ?_)
    refine rowD_M hl rr _ r4 (fun g5 r5 => ?_)
    have l5 := r5.1.lay hl
    have v5 : hI g5 201 18 = nI ev := by rw [r5.1.I (by unfold SDg; omega)]; exact rg.2.2.1
    have r6 := r5.mix (nI ev).toInt64
    obtain ⟨g6, e6⟩ : ∃ g6, g6 = uJ g5 201 57 ((31 : Int64) * hJ g5 201 57 + (nI ev).toInt64) := ⟨_, rfl⟩
    rw [← e6] at r6
    have l6 := r6.1.lay hl
    have v6 : hI g6 201 18 = nI ev := by rw [r6.1.I (by unfold SDg; omega)]; exact rg.2.2.1
    simp only [gI_n (kk201 l5), v5, Option.bind_some, cv_n (kk201 l5), mix_M l5, ← e6, gI_n (kk201 l6), v6, cv_n (kk201 l6)]
    have ag6 : ∀ {S : Nat → Nat → Prop}, (∀ a k, S a k → ¬ SDg a k) → Ag S h g6 := fun hS => r6.1.fr.ag (fun a k s => hS a k s)
    have rh6 : RHelp g6 hn ha := rh.ag hl.2.2.2.2.2.2 (r6.1.fr.ag (by unfold FHelp SDg; omega))
    have rg6 : RLog g6 hn ev := rg.ag hl.2.2.2.2.2.2 (r6.1.fr.ag (by unfold FLog SDg; omega))
    have w6 : wld g6 = wld h := wld_ag hl.2.2.2.2.2.2 (r6.1.fr.ag (by unfold FLog SDg; omega))
    obtain ⟨⟨x7, g7⟩, e7, q7, f7, z7⟩ := passAll_M l6 rh6 rg6 (Nat.le_refl ev)
    dsimp only at q7 f7
    rw [w6] at q7
    subst q7
    have f7' : Dfr SDg h g7 := r6.1.trans (f7.mono (fun a k z => Or.inr z))
    have r7 : DR h g7 _ := ⟨f7', (f7.J (by unfold SWd; omega)).trans r6.2⟩
    have l7 := f7'.lay hl
    rw [e7, bd2_v]
    have r8 := r7.mix (nI (cnS (wld h ev) 4096)).toInt64
    obtain ⟨g8, e8⟩ : ∃ g8, g8 = uJ g7 201 57 ((31 : Int64) * hJ g7 201 57 + (nI (cnS (wld h ev) 4096)).toInt64) := ⟨_, rfl⟩
    rw [← e8] at r8
    have l8 := r8.1.lay hl
    have v8 : hI g8 201 6 = nI n1 := by rw [r8.1.I (by unfold SDg; omega)]; exact a3
    have r9 := r8.mix (nI n1).toInt64
    obtain ⟨g9, e9⟩ : ∃ g9, g9 = uJ g8 201 57 ((31 : Int64) * hJ g8 201 57 + (nI n1).toInt64) := ⟨_, rfl⟩
    rw [← e9] at r9
    have l9 := r9.1.lay hl
    have v9 : hI g9 201 7 = nI n2 := by rw [r9.1.I (by unfold SDg; omega)]; exact b3
    have r10 := r9.mix (nI n2).toInt64
    obtain ⟨g10, e10⟩ : ∃ g10, g10 = uJ g9 201 57 ((31 : Int64) * hJ g9 201 57 + (nI n2).toInt64) := ⟨_, rfl⟩
    rw [← e10] at r10
    have l10 := r10.1.lay hl
    have v10 : hI g10 201 8 = nI n3 := by rw [r10.1.I (by unfold SDg; omega)]; exact c3
    have r11 := r10.mix (nI n3).toInt64
    obtain ⟨g11, e11⟩ : ∃ g11, g11 = uJ g10 201 57 ((31 : Int64) * hJ g10 201 57 + (nI n3).toInt64) := ⟨_, rfl⟩
    rw [← e11] at r11
    have l11 := r11.1.lay hl
    simp only [cv_n (kk201 l7), mix_M l7, ← e8, Option.bind_some, gI_n (kk201 l8), v8, cv_n (kk201 l8), mix_M l8, ← e9, gI_n (kk201 l9), v9, cv_n (kk201 l9), mix_M l9, ← e10, gI_n (kk201 l10), v10, cv_n (kk201 l10), mix_M l10, ← e11, gJ_n (kk201 l11), r11.2]
    exact OK.mk ⟨eD.symm, r11.1⟩
  obtain ⟨⟨r, g2⟩, e, q, f⟩ := M
  dsimp only at q f
  subst q
  exact ⟨r, g2, C, e, f⟩
end DG
