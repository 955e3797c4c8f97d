/-! find() and becomes() -/
def SAf (a k : Nat) : Prop := SAd a k ∨ (a = 100 ∧ (k = 2 ∨ k = 3 ∨ k = 5)) ∨ a = 102
def Cch (g : AH) (a b w : Nat) (ms : Nat → Nat) (G : Nat → Bool) : Prop := hR g 100 2 = some a ∧ hR g 100 3 = some b ∧ hI g 100 5 = nI w ∧ (∀ k, k < w → ms k < 8 ∧ hI g 102 k = nI (ms k)) ∧ FD g w (gds G (8 ^ w))
def fndB (h0 : AH) (o : Nat) (p1 p2 : Option Nat) : Option AH :=
    (pR 1 h0 o 2 p1).bind fun h24 =>
    (pR 1 h24 o 3 p2).bind fun h25 =>
    (pI 1 h25 o 1 (0 : Int32)).bind fun h26 =>
    (pI 1 h26 o 5 (0 : Int32)).bind fun h27 =>
    (gR 1 h27 o 6).bind fun r28 =>
    (f_jA_fill_I h27 r28 (-1 : Int32)).bind fun h29 =>
    (gR 1 h29 o 7).bind fun r30 =>
    (f_jA_fill_I h29 r30 (-1 : Int32)).bind fun h31 =>
    (gR 1 h31 o 2).bind fun r32 =>
    (r32).bind fun a33 =>
    (cv 9 h31 a33 (f_Ta_messages h31 a33)).bind fun x34 =>
    f_Ad_find_L64 o x34 (fun h35 =>
      (cv 1 h35 o (f_Ad_assign 8 h35 o (0 : Int32))).bind fun h36 =>
      some h36
    ) FU (0 : Int32) h31
section AE
variable {h g : AH} {x y a b n m w : Nat} {ms : Nat → Nat} {G : Nat → Bool}
theorem messages_C (T : TK g x a n) : f_Ta_messages g a = some (nI (usg g x n 0 ||| usg g x n 1)) := by
  have u0 : f_Ta_messagesOf g a (0 : Int32) = some (nI (usg g x n 0)) := uses_C T (g := 0) (by decide)
  have u1 : f_Ta_messagesOf g a (1 : Int32) = some (nI (usg g x n 1)) := uses_C T (g := 1) (by decide)
  simp only [f_Ta_messages, cv_n (c := 9) T.2.2.2.1.1, u0, u1, ob_v, nI_or]
theorem usg_cong (e : nx g = nx h) (t n k : Nat) : usg g t n k = usg h t n k := by unfold usg hrs sys; rw [e]
theorem rTab_SAf : ∀ q ∈ rTab, ¬ SAf q.1 q.2.1 := by
  have : ∀ q ∈ rTab, ¬ ((((q.1 = 100 ∧ q.2.1 = 10) ∨ q.1 = 105 ∨ q.1 = 106) ∨ (q.1 = 100 ∧ q.2.1 = 1) ∨ q.1 = 101 ∨ q.1 = 103 ∨ q.1 = 104) ∨ (q.1 = 100 ∧ (q.2.1 = 2 ∨ q.2.1 = 3 ∨ q.2.1 = 5)) ∨ q.1 = 102) := by decide +kernel
  exact this
theorem SAf_4 : ∀ a k, SAf a k → 4 ≤ a := fun a k z => by unfold SAf SAd SAg at z; omega
theorem mloop_C (lg : Lay g) {U : Nat} (hU : U < 256) (M : MsOK U w ms) (w5 : w ≤ 5) {ρ : Type} {Q : ρ → Prop} {kk : AH → Option ρ} (hk : ∀ g', Dfr (fun a k => (a = 100 ∧ k = 5) ∨ a = 102) g g' → hI g' 100 5 = nI w → (∀ k, k < w → hI g' 102 k = nI (ms k)) → OK (kk g') Q) : ∀ e z N (g' : AH), z + e = 8 → e < N → Dfr (fun a k => (a = 100 ∧ k = 5) ∨ a = 102) g g' → hI g' 100 5 = nI (cnS (fun m => U.testBit m) z) → (∀ k, k < cnS (fun m => U.testBit m) z → hI g' 102 k = nI (ms k)) → OK (f_Ad_find_L64 100 (nI U) kk N (nI z) g') Q := by
  intro e
  induction e with
  | zero =>
    intro z N g' h1 h2 f v5 v102
    obtain ⟨N, rfl⟩ : ∃ q, N = q + 1 := ⟨N - 1, by omega⟩
    have : z = 8 := by omega
    subst this
    rw [f_Ad_find_L64, if_neg (show ¬ nI 8 < 8 by decide)]
    rw [← M.1] at v5 v102
    exact hk g' f v5 v102
  | succ e ih =>
    intro z N g' h1 h2 f v5 v102
    obtain ⟨N, rfl⟩ : ∃ q, N = q + 1 := ⟨N - 1, by omega⟩
    have lg' := f.lay lg
    have cw : cnS (fun m => U.testBit m) z ≤ w := by rw [M.1]; exact cnS_mono _ (by omega)
    rw [f_Ad_find_L64, if_pos (show nI z < 8 from nI_lt (b := 8) (by omega) (by decide)), gI_n (c := 1) (kk100 lg'), ob_v, v5]
    by_cases q5 : cnS (fun m => U.testBit m) z < 5
    · rw [if_pos (show nI _ < 5 from nI_lt (b := 5) q5 (by decide)), hasBit_C, ob_v, hb_nI (by omega) (by omega)]
      cases b : U.testBit z with
      | false =>
        rw [if_pos (show bI false = 0 by decide), nI_1]
        have e1 : cnS (fun m => U.testBit m) (z + 1) = cnS (fun m => U.testBit m) z := by simp only [cnS]; rw [if_neg (by simp [b])]; rfl
        exact ih (z + 1) N g' (by omega) (by omega) f (by rw [e1]; exact v5) (by rw [e1]; exact v102)
      | true =>
        have e1 : cnS (fun m => U.testBit m) (z + 1) = cnS (fun m => U.testBit m) z + 1 := by simp only [cnS]; rw [if_pos b]
        obtain ⟨r1, r2⟩ := M.rk (show z < 8 by omega) b
        obtain ⟨c, ec⟩ : ∃ c, c = cnS (fun m => U.testBit m) z := ⟨_, rfl⟩
        rw [← ec] at v5 v102 q5 e1 r1 r2 cw
        obtain ⟨g1, e2⟩ : ∃ g1, g1 = uI g' 102 c (nI z) := ⟨_, rfl⟩
        have f1 : Dfr (fun a k => (a = 100 ∧ k = 5) ∨ a = 102) g' g1 := by rw [e2]; exact Dfr.uI (by decide) (Or.inr rfl)
        have l1 := f1.lay lg'
        have w1 : wI g' 102 (nI c) (nI z) = some g1 := by rw [e2]; exact wI_n (by decide) (kk102 lg') q5 (by decide)
        have v1 : hI g1 100 5 = nI c := by rw [e2, hI_ne (by omega)]; exact v5
        obtain ⟨g2, e3⟩ : ∃ g2, g2 = uI g1 100 5 (nI (c + 1)) := ⟨_, rfl⟩
        have f2 : Dfr (fun a k => (a = 100 ∧ k = 5) ∨ a = 102) g1 g2 := by rw [e3]; exact Dfr.uI (by decide) (Or.inl ⟨rfl, rfl⟩)
        have w2 : pI 1 g1 100 5 (nI (c + 1)) = some g2 := by rw [e3]; exact pI_n (c := 1) (kk100 l1)
        rw [if_neg (show ¬ bI true = 0 by decide), ← ec]
        simp only [gR_n (c := 1) (kk100 lg'), LR lg', gI_n (c := 1) (kk100 lg'), v5, ob_v, w1, gI_n (c := 1) (kk100 l1), v1, nI_1, w2]
        refine ih (z + 1) N g2 (by omega) (by omega) ((f.trans f1).trans f2) (by rw [e1, e3, hI_eq]) (fun k hk' => ?_)
        rw [e1] at hk'
        rw [e3, hI_ne (by omega), e2]
        by_cases kc : k = c
        · subst kc; rw [hI_eq, r2]
        · rw [hI_ne (by omega)]; exact v102 k (by omega)
    · have cw' : cnS (fun m => U.testBit m) z = w := by omega
      rw [if_neg (show ¬ nI _ < 5 from nI_nlt (b := 5) (by omega) (by omega))]
      rw [cw'] at v5 v102
      exact hk g' f v5 v102
theorem fndB_C (hl : Lay h) (T1 : TK h x a n) (T2 : TK h y b m) (M : MsOK (usg h x n 0 ||| usg h x n 1) w ms) (w5 : w ≤ 5) (HG : GdC h x y w ms G) : OK (fndB h 100 (some a) (some b)) (fun g => Fr SAf h g ∧ Lay g ∧ Cch g a b w ms G) := by
  have hm := hl.2.2.2.2.2.2
  obtain ⟨g1, e1⟩ : ∃ g1, g1 = uR h 100 2 (some a) := ⟨_, rfl⟩
  have f1 : Fr SAf h g1 := by rw [e1]; exact Fr.uR (by unfold SAf; omega)
  have l1 := f1.lay hl rTab_SAf SAf_4
  have p1 : pR 1 h 100 2 (some a) = some g1 := by rw [e1]; exact pR_n (c := 1) (kk100 hl)
  obtain ⟨g2, e2⟩ : ∃ g2, g2 = uR g1 100 3 (some b) := ⟨_, rfl⟩
  have f2 : Fr SAf h g2 := by rw [e2]; exact f1.trans (Fr.uR (by unfold SAf; omega))
  have l2 := f2.lay hl rTab_SAf SAf_4
  have p2 : pR 1 g1 100 3 (some b) = some g2 := by rw [e2]; exact pR_n (c := 1) (kk100 l1)
  obtain ⟨g3, e3⟩ : ∃ g3, g3 = uI g2 100 1 0 := ⟨_, rfl⟩
  have f3 : Fr SAf h g3 := by rw [e3]; exact f2.trans (Fr.uI (by unfold SAf SAd; omega))
  have l3 := f3.lay hl rTab_SAf SAf_4
  have p3 : pI 1 g2 100 1 0 = some g3 := by rw [e3]; exact pI_n (c := 1) (kk100 l2)
  obtain ⟨g4, e4⟩ : ∃ g4, g4 = uI g3 100 5 0 := ⟨_, rfl⟩
  have f4 : Fr SAf h g4 := by rw [e4]; exact f3.trans (Fr.uI (by unfold SAf; omega))
  have l4 := f4.lay hl rTab_SAf SAf_4
  have p4 : pI 1 g3 100 5 0 = some g4 := by rw [e4]; exact pI_n (c := 1) (kk100 l3)
  obtain ⟨g5, e5, f5, v5⟩ := fillI (h := g4) 103 (-1) (by decide) (kk103 l4) (by decide)
  have l5 := f5.lay l4
  obtain ⟨g6, e6, f6, v6⟩ := fillI (h := g5) 104 (-1) (by decide) (kk104 l5) (by decide)
  have l6 := f6.lay l5
  have F6 : Fr SAf h g6 := (f4.trans (f5.fr.mono (fun a k z => by unfold SAf SAd; omega))).trans (f6.fr.mono (fun a k z => by unfold SAf SAd; omega))
  have ag6 : Ag FTalk h g6 := F6.ag (by unfold FTalk SAf SAd SAg; omega)
  have U1 := T1.ag hm ag6
  have U2 := T2.ag hm ag6
  have nx6 : nx g6 = nx h := by funext t s k; exact F6.I (by unfold SAf SAd SAg; omega)
  have en6 : en g6 = en h := by funext t s; exact F6.I (by unfold SAf SAd SAg; omega)
  have sx6 : sX g6 = sX h := by unfold sX; rw [nx6]
  have hx6 : hX g6 = hX h := by unfold hX; rw [nx6]
  have R2 : hR g6 100 2 = some a := by rw [f6.R, f5.R, e4]; show hR g3 100 2 = _; rw [e3]; show hR g2 100 2 = _; rw [e2, e1]; rfl
  have R3 : hR g6 100 3 = some b := by rw [f6.R, f5.R, e4]; show hR g3 100 3 = _; rw [e3]; show hR g2 100 3 = _; rw [e2]; rfl
  have i1 : hI g6 100 1 = 0 := by rw [f6.I (by omega), f5.I (by omega), e4, hI_ne (by omega), e3, hI_eq]
  have i5 : hI g6 100 5 = 0 := by rw [f6.I (by omega), f5.I (by omega), e4, hI_eq]
  have r6 : gR 1 g4 100 6 = some (some 103) := by rw [gR_n (c := 1) (kk100 l4)]; simp only [LR l4]
  have r7 : gR 1 g5 100 7 = some (some 104) := by rw [gR_n (c := 1) (kk100 l5)]; simp only [LR l5]
  have mes := messages_C U1
  rw [usg_cong nx6, usg_cong nx6] at mes
  have Ul : usg h x n 0 ||| usg h x n 1 < 2 ^ 8 := or_lt (usg_lt h x n 0) (usg_lt h x n 1)
  have M6 : MCh n m (sX g6 x) (hX g6 x) (sX g6 y) (hX g6 y) := mch_T U1 U2
  have hU6 : ∀ i, i ≤ n → ∀ k, k < 8 → (¬ sX g6 x i k = -1 ∨ ¬ hX g6 x i k = -1) → ∃ q, q < w ∧ ms q = k := by
    rw [sx6, hx6]; exact used_ms T1 M
  have HG6 : GdC g6 x y w ms G := by unfold GdC; rw [sx6, hx6, en6]; exact HG
  unfold fndB
  rw [p1, ob_v, p2, ob_v, p3, ob_v, p4, ob_v, r6, ob_v, e5, ob_v, r7, ob_v, e6, ob_v, gR_n (c := 1) (kk100 l6), ob_v, R2, ob_v, cv_n (c := 9) U1.2.2.2.1.1, mes, ob_v]
  refine mloop_C l6 Ul M w5 (fun g7 f7 v5' v102 => ?_) 8 0 FU g6 (by omega) (by unfold FU; omega) Dfr.refl (by rw [i5]; rfl) (fun k hk => by simp only [cnS] at hk; omega)
  have l7 := f7.lay l6
  have F7 : Fr SAf h g7 := F6.trans (f7.fr.mono (fun a k z => by unfold SAf; omega))
  have ag7 : Ag FTalk h g7 := F7.ag (by unfold FTalk SAf SAd SAg; omega)
  have nx7 : nx g7 = nx h := by funext t s k; exact F7.I (by unfold SAf SAd SAg; omega)
  have en7 : en g7 = en h := by funext t s; exact F7.I (by unfold SAf SAd SAg; omega)
  have sx7 : sX g7 = sX h := by unfold sX; rw [nx7]
  have hx7 : hX g7 = hX h := by unfold hX; rw [nx7]
  have A7 : AdS g7 g7 x y a b n m w ms 0 0 := by
    refine ⟨Dfr.refl, ⟨⟨T1.ag hm ag7, T2.ag hm ag7, by rw [f7.R]; exact R2, by rw [f7.R]; exact R3⟩, v5', w5, Nat.zero_le _, fun k hk => ?_, fun k hk => by omega⟩, fun z hz => ?_, fun i j a b => by omega⟩
    · have mk := (M.2 k hk).1
      refine ⟨mk, v102 k hk, ?_⟩
      rw [if_neg (by omega), f7.I (by omega), f6.I (by omega)]
      exact v5 _ mk
    · rw [f7.I (by omega)]; exact v6 z hz
  have D7 : FD g7 w (gds G (0 * 8 ^ w)) := by
    rw [Nat.zero_mul]
    exact ⟨by rw [f7.I (by omega), i1]; rfl, fun i hi => absurd hi (by show ¬ i < 0; omega)⟩
  have HG7 : GdC g7 x y w ms G := by unfold GdC; rw [sx7, hx7, en7]; exact HG
  have as := assign_C (a := a) (b := b) (h := g7) l7 (fun k k' c d e => M.inj c d e) (by rw [sx7, hx7]; exact used_ms T1 M) (by rw [sx7, hx7]; exact mch_T T1 T2) T1.1 T2.1 HG7 w5 w 0 0 8 g7 (by omega) (by omega) (by simp) A7 D7
  rw [cv_n (c := 1) (kk100 l7)]
  refine OK.bind (OK.mono as (fun g8 ⟨A8, D8⟩ => OK.mk ?_))
  obtain ⟨f8, F8, _, _⟩ := A8
  refine ⟨F7.trans (f8.fr.mono (fun a k z => Or.inl z)), f8.lay l7, F8.1.2.2.1, F8.1.2.2.2, F8.2.1, fun k hk => ⟨(F8.2.2.2.2.1 k hk).1, (F8.2.2.2.2.1 k hk).2.1⟩, ?_⟩
  rw [Nat.zero_add, Nat.one_mul] at D8
  exact D8
theorem find_C (hl : Lay h) (T1 : TK h x a n) (T2 : TK h y b m) (M : MsOK (usg h x n 0 ||| usg h x n 1) w ms) (w5 : w ≤ 5) (HG : GdC h x y w ms G) (r2 : ∀ q ∈ hR h 100 2, 4 ≤ q) (r3 : ∀ q ∈ hR h 100 3, 4 ≤ q) (same : hR h 100 2 = some a → hR h 100 3 = some b → Cch h a b w ms G) : OK (f_Ad_find h 100 (some a) (some b)) (fun g => Fr SAf h g ∧ Lay g ∧ Cch g a b w ms G) := by
  have a4 := T1.2.1
  have b4 := T2.2.1
  have ka : rokb (some a) := fun q hq => by cases hq; omega
  have kb : rokb (some b) := fun q hq => by cases hq; omega
  have fb := fndB_C hl T1 T2 M w5 HG
  unfold fndB at fb
  rw [f_Ad_find, gR_n (c := 1) (kk100 hl), ob_v, if_pos ka, if_pos r2]
  by_cases e1 : some a = hR h 100 2
  · rw [if_pos e1, gR_n (c := 1) (kk100 hl), ob_v, if_pos kb, if_pos r3]
    by_cases e2 : some b = hR h 100 3
    · rw [if_pos e2]
      exact OK.mk ⟨Fr.rfl', hl, same e1.symm e2.symm⟩
    · rw [if_neg e2]; exact fb
  · rw [if_neg e1]; exact fb
theorem becomes_C (lg : Lay g) (C : Cch g a b w ms G) (w5 : w ≤ 5) (mi : ∀ k k', k < w → k' < w → ms k = ms k' → k = k') (bl : (gds G (8 ^ w)).length ≤ 6720) {q : Nat} (hq : q < 8) : (∀ j, j < (gds G (8 ^ w)).length → f_Ad_becomes g 100 (nI j) (nI q) = some (bB ms (dg w ((gds G (8 ^ w)).getD j 0)) w q)) ∧ ∀ i : Int32, (¬ ∃ j, j < (gds G (8 ^ w)).length ∧ i = nI j) → f_Ad_becomes g 100 i (nI q) = some (-1) := by
  obtain ⟨C1, C2, C3, C4, C5, C6⟩ := C
  obtain ⟨L, eL⟩ : ∃ L, L = gds G (8 ^ w) := ⟨_, rfl⟩
  rw [← eL] at C5 C6 bl ⊢
  constructor
  · intro j hj
    obtain ⟨d, ed⟩ : ∃ d, d = dg w (L.getD j 0) := ⟨_, rfl⟩
    have vj := C6 j hj
    rw [← ed] at vj ⊢
    have d8 : ∀ k, d k < 8 := fun k => by rw [ed]; exact dg_lt _ _ k
    have loop : ∀ e k N, k + e = w → e < N → (∀ k', k' < k → ¬ ms k' = q) → f_Ad_becomes_L16 g 100 (nI j) (nI q) (fun x6 => (gR 1 g 100 0).bind fun r7 => (r7).bind fun a8 => (rI 1 g a8 (nI j)).bind fun x9 => some (((x9 >>> (((4 : Int32) * x6) &&& 31)) &&& (15 : Int32)))) N (nI k) = some (bB ms d w q) := by
      intro e
      induction e with
      | zero =>
        intro k N h1 h2 no
        obtain ⟨N, rfl⟩ : ∃ q, N = q + 1 := ⟨N - 1, by omega⟩
        rw [f_Ad_becomes_L16, gI_n (c := 1) (kk100 lg), ob_v, C3, if_neg (nI_nlt (show w ≤ k by omega) (by omega))]
        rcases bB_r ms d q w with ⟨z, _⟩ | ⟨k', z1, z2, _⟩
        · rw [z]
        · exact absurd z2 (no k' (by omega))
      | succ e ih =>
        intro k N h1 h2 no
        obtain ⟨N, rfl⟩ : ∃ q, N = q + 1 := ⟨N - 1, by omega⟩
        obtain ⟨u1, u2⟩ := C4 k (by omega)
        rw [f_Ad_becomes_L16, gI_n (c := 1) (kk100 lg), ob_v, C3, if_pos (nI_lt (show k < w by omega) (by omega))]
        simp only [gR_n (c := 1) (kk100 lg), LR lg, ob_v, rI_n (kk102 lg) (show k < 5 by omega) (by decide), u2]
        by_cases z : ms k = q
        · rw [if_pos (by rw [z]), rI_n (kk101 lg) (show j < 6720 by omega) (by decide), ob_v, vj]
          have pl := pkd_lt d8 w
          have p20 : 16 ^ w ≤ 16 ^ 5 := Nat.pow_le_pow_right (by decide) w5
          have p16 : 16 ^ k = 2 ^ (4 * k) := by rw [Nat.pow_mul]
          have pl2 : pkd d w / 2 ^ (4 * k) ≤ pkd d w := Nat.div_le_self _ _
          rw [show (4 : Int32) * nI k = nI (4 * k) from pk_mul 4 k, pk_shrN (by omega) _ (4 * k) (sh4 k (by omega)), pk_andN (m := 15) (by omega) 4 (by decide), ← p16, show 2 ^ 4 = 16 from rfl, pkd_at d8 w5 (by omega)]
          rcases bB_r ms d q w with ⟨_, z'⟩ | ⟨k', z1, z2, z3⟩
          · exact absurd z (z' k (by omega))
          · rw [z3, mi k' k z1 (by omega) (by rw [z, z2])]
        · rw [if_neg (fun y => z (nI_inj (by omega) (by omega) y)), nI_1]
          have := ih (k + 1) N (by omega) (by omega) (fun k' hk' => by
            by_cases kk : k' = k
            · rw [kk]; exact z
            · exact no k' (by omega))
          simp only [gR_n (c := 1) (kk100 lg), LR lg, ob_v] at this
          exact this
    unfold f_Ad_becomes
    rw [if_neg (nI_n0 j (by omega)), gI_n (c := 1) (kk100 lg), ob_v, C5, if_pos (nI_lt hj (by omega))]
    exact loop w 0 FU (by omega) (by unfold FU; omega) (fun k' hk' => by omega)
  · intro i hi
    unfold f_Ad_becomes
    rcases ix_cases i (show L.length < 2 ^ 31 by omega) with h1 | h0 | ⟨h0, h1⟩
    · exact absurd h1 hi
    · rw [if_pos h0]
    · rw [if_neg h0, gI_n (c := 1) (kk100 lg), ob_v, C5, if_neg h1]
end AE
