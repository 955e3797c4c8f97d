/-! the class tries an adapter: places that are come to -/
def SAg (a k : Nat) : Prop := (a = 100 ∧ k = 10) ∨ a = 105 ∨ a = 106
def AG (h g : AH) (n m : Nat) (Pd X : Nat → Nat → Prop) (T : Nat) : Prop := ∃ (R : Nat → Nat → Bool) (wc : Nat) (W : Nat → Nat × Nat), Dfr SAg h g ∧ (∀ i, i < 25 → hI g 105 i = nI (msk (R i) 25)) ∧ hI g 100 10 = nI wc ∧ (∀ k, k < wc → hI g 106 k = nI ((W k).1 + 32 * (W k).2) ∧ R (W k).1 (W k).2 = true) ∧ T + wc = cnS (fun c => R (c / 25) (c % 25)) 625 ∧ (∀ i j, R i j = true ↔ X i j) ∧ (∀ i j, X i j → i ≤ n ∧ j ≤ m) ∧ ∀ i j, X i j → Pd i j ∨ ∃ k, k < wc ∧ W k = (i, j)
def AdF (h : AH) (x y a b n m w : Nat) (ms d : Nat → Nat) (k0 : Nat) : Prop := (TK h x a n ∧ TK h y b m ∧ hR h 100 2 = some a ∧ hR h 100 3 = some b) ∧ hI h 100 5 = nI w ∧ w ≤ 5 ∧ k0 ≤ w ∧ (∀ k, k < w → ms k < 8 ∧ hI h 102 k = nI (ms k) ∧ hI h 103 (ms k) = if k < k0 then nI (d k) else -1) ∧ ∀ k, k < k0 → d k < 8
section AA
variable {h g : AH} {x y a b n m w : Nat} {ms d : Nat → Nat} {k0 : Nat} {Pd X : Nat → Nat → Prop} {T : Nat}
theorem sag_nx (f : Dfr SAg h g) : nx g = nx h := by funext t s k; exact f.I (by unfold SAg; omega)
theorem sag_en (f : Dfr SAg h g) : en g = en h := by funext t s; exact f.I (by unfold SAg; omega)
theorem sag_m (f : Dfr SAg h g) : sX g = sX h ∧ hX g = hX h := by
  have := sag_nx f
  exact ⟨by funext t; unfold sX; rw [this], by funext t; unfold hX; rw [this]⟩
theorem AdF.fr (F : AdF h x y a b n m w ms d k0) (hl : Lay h) (f : Dfr SAg h g) : AdF g x y a b n m w ms d k0 := by
  obtain ⟨⟨a1, a2, a3, a4⟩, a5, a6, a7, a8, a9⟩ := F
  have ag : Ag FTalk h g := f.fr.ag (by unfold FTalk SAg; omega)
  refine ⟨⟨a1.ag hl.2.2.2.2.2.2 ag, a2.ag hl.2.2.2.2.2.2 ag, by rw [f.R]; exact a3, by rw [f.R]; exact a4⟩, by rw [f.I (by unfold SAg; omega)]; exact a5, a6, a7, fun k hk => ?_, a9⟩
  obtain ⟨b1, b2, b3⟩ := a8 k hk
  exact ⟨b1, by rw [f.I (by unfold SAg; omega)]; exact b2, by rw [f.I (by unfold SAg; omega)]; exact b3⟩
theorem AG.cong {X' : Nat → Nat → Prop} (A : AG h g n m Pd X T) (e : ∀ i j, X i j ↔ X' i j) : AG h g n m Pd X' T := by
  obtain ⟨R, wc, W, f, r1, r2, r3, r4, r5, r6, r7⟩ := A
  exact ⟨R, wc, W, f, r1, r2, r3, r4, fun i j => (r5 i j).trans (e i j), fun i j q => r6 i j ((e i j).mpr q), fun i j q => r7 i j ((e i j).mpr q)⟩
theorem reach_Ad (hl : Lay h) (A : AG h g n m Pd X T) (hn : n ≤ 24) (hm : m ≤ 24) {i j : Nat} (hi : i ≤ n) (hj : j ≤ m) : OK (f_Ad_reach g 100 (nI i) (nI j)) (fun g' => AG h g' n m Pd (fun a b => X a b ∨ (a = i ∧ b = j)) T) := by
  obtain ⟨R, wc, W, f, r1, r2, r3, r4, r5, r6, r7⟩ := A
  have lg := f.lay hl
  have mlt := msk_lt (R i) 25
  rw [f_Ad_reach, gR_n (c := 1) (kk100 lg), ob_v]
  simp only [LR lg, ob_v]
  rw [rI_n (kk105 lg) (show i < 25 by omega) (by decide), ob_v, r1 i (by omega), hasBit_C, ob_v, hb_nI (by omega) (by omega), msk_bit]
  by_cases q : R i j = true
  · rw [decide_eq_true (show j < 25 by omega), q, if_neg (show ¬ bI (true && true) = 0 by decide)]
    refine OK.mk ⟨R, wc, W, f, r1, r2, r3, r4, fun a b => ?_, fun a b z => ?_, fun a b z => ?_⟩
    · rw [r5]
      exact ⟨Or.inl, fun z => z.elim id (fun z => by rw [z.1, z.2]; exact (r5 i j).mp q)⟩
    · rcases z with z | z
      · exact r6 a b z
      · rw [z.1, z.2]; exact ⟨hi, hj⟩
    · rcases z with z | z
      · exact r7 a b z
      · rw [z.1, z.2]; exact r7 i j ((r5 i j).mp q)
  · have q' : R i j = false := by simpa using q
    have ci : cnS (fun c => R (c / 25) (c % 25) || (decide (c / 25 = i) && decide (c % 25 = j))) 625 = cnS (fun c => R (c / 25) (c % 25)) 625 + 1 := by
      refine cnS_ins (z := 25 * i + j) (fun c hc => ?_) ?_ ?_ 625 (by omega)
      · have : ¬ (c / 25 = i ∧ c % 25 = j) := fun z => hc (by omega)
        by_cases z : c / 25 = i
        · have : ¬ c % 25 = j := fun y => this ⟨z, y⟩
          simp [this]
        · simp [z]
      · show R ((25 * i + j) / 25) ((25 * i + j) % 25) = false
        rw [show (25 * i + j) / 25 = i by omega, show (25 * i + j) % 25 = j by omega]; exact q'
      · show (R ((25 * i + j) / 25) ((25 * i + j) % 25) || (decide ((25 * i + j) / 25 = i) && decide ((25 * i + j) % 25 = j))) = true
        rw [show (25 * i + j) / 25 = i by omega, show (25 * i + j) % 25 = j by omega]; simp
    have c625 := cnS_le (fun c => R (c / 25) (c % 25) || (decide (c / 25 = i) && decide (c % 25 = j))) 625
    have wl : wc < 625 := by omega
    rw [decide_eq_true (show j < 25 by omega), q', if_pos (show bI (true && false) = 0 by decide), gI_n (c := 1) (kk100 lg), ob_v, r2, if_pos (show nI wc < 625 from nI_lt (b := 625) wl (by decide))]
    obtain ⟨g1, e1⟩ : ∃ g1, g1 = uI g 105 i (nI (msk (R i) 25 ||| 2 ^ j)) := ⟨_, rfl⟩
    have f1 : Dfr SAg g g1 := by rw [e1]; exact Dfr.uI (by decide) (by unfold SAg; omega)
    have l1 := f1.lay lg
    have w1 : wI g 105 (nI i) (nI (msk (R i) 25 ||| 2 ^ j)) = some g1 := by rw [e1]; exact wI_n (by decide) (kk105 lg) (by omega) (by decide)
    have v1 : hI g1 100 10 = nI wc := by rw [e1, hI_ne (by omega)]; exact r2
    obtain ⟨g2, e2⟩ : ∃ g2, g2 = uI g1 106 wc (nI (i + 32 * j)) := ⟨_, rfl⟩
    have f2 : Dfr SAg g1 g2 := by rw [e2]; exact Dfr.uI (by decide) (by unfold SAg; omega)
    have l2 := f2.lay l1
    have w2 : wI g1 106 (nI wc) (nI (i + 32 * j)) = some g2 := by rw [e2]; exact wI_n (by decide) (kk106 l1) (by omega) (by decide)
    have v2 : hI g2 100 10 = nI wc := by rw [e2, hI_ne (by omega)]; exact v1
    obtain ⟨g3, e3⟩ : ∃ g3, g3 = uI g2 100 10 (nI (wc + 1)) := ⟨_, rfl⟩
    have f3 : Dfr SAg g2 g3 := by rw [e3]; exact Dfr.uI (by decide) (by unfold SAg; omega)
    have w3 : pI 1 g2 100 10 (nI (wc + 1)) = some g3 := by rw [e3]; exact pI_n (c := 1) (kk100 l2)
    have s5 : nI j <<< ((5 : Int32) &&& 31) = nI (j * 2 ^ 5) := pk_shlN _ 5 (by decide) (by omega)
    simp only [gR_n (c := 1) (kk100 lg), LR lg, ob_v, rI_n (kk105 lg) (show i < 25 by omega) (by decide), r1 i (by omega), shl1 (show j < 31 by omega), nI_or, w1, gR_n (c := 1) (kk100 l1), gI_n (c := 1) (kk100 l1), LR l1, v1, s5, or32 (show i < 32 by omega), w2, gI_n (c := 1) (kk100 l2), v2, nI_1, w3]
    have I3 : ∀ a k, ¬ (a = 100 ∧ k = 10) → ¬ (a = 106 ∧ k = wc) → ¬ (a = 105 ∧ k = i) → hI g3 a k = hI g a k := fun a k z1 z2 z3 => by rw [e3, hI_ne z1, e2, hI_ne z2, e1, hI_ne z3]
    refine OK.mk ⟨fun a b => R a b || (decide (a = i) && decide (b = j)), wc + 1, fun k => if k = wc then (i, j) else W k, ((f.trans f1).trans f2).trans f3, fun a ha => ?_, by rw [e3, hI_eq], fun k hk => ?_, ?_, fun a b => ?_, fun a b z => ?_, fun a b z => ?_⟩
    · by_cases z : a = i
      · subst z
        rw [e3, hI_ne (by omega), e2, hI_ne (by omega), e1, hI_eq]
        congr 1
        exact (msk_set (show j < 25 by omega) (by simp) (fun t _ ht => by simp [ht])).symm
      · rw [I3 105 a (by omega) (by omega) (by omega), r1 a ha]
        congr 1
        exact msk_ext (fun t _ => by simp [z])
    · dsimp only
      by_cases z : k = wc
      · rw [if_pos z]
        refine ⟨?_, by simp⟩
        rw [z, e3, hI_ne (by omega), e2, hI_eq]
      · rw [if_neg z, I3 106 k (by omega) (by omega) (by omega)]
        obtain ⟨y1, y2⟩ := r3 k (by omega)
        exact ⟨y1, by rw [y2]; rfl⟩
    · rw [ci]; omega
    · show (R a b || (decide (a = i) && decide (b = j))) = true ↔ _
      rw [Bool.or_eq_true, r5, Bool.and_eq_true, decide_eq_true_eq, decide_eq_true_eq]
    · rcases z with z | z
      · exact r6 a b z
      · rw [z.1, z.2]; exact ⟨hi, hj⟩
    · rcases z with z | z
      · rcases r7 a b z with y | ⟨k, y1, y2⟩
        · exact Or.inl y
        · exact Or.inr ⟨k, by omega, by dsimp only; rw [if_neg (by omega)]; exact y2⟩
      · exact Or.inr ⟨wc, by omega, by dsimp only; rw [if_pos rfl, z.1, z.2]⟩
/-- what message number k lets pass -/
def Sb (sA hA sB hB : Mc) (ms d : Nat → Nat) (k i j i' j' : Nat) : Prop := (¬ sA i (ms k) = -1 ∧ ¬ hB j (d k) = -1 ∧ i' = tN (sA i (ms k)) ∧ j' = tN (hB j (d k))) ∨ (¬ hA i (ms k) = -1 ∧ ¬ sB j (d k) = -1 ∧ i' = tN (hA i (ms k)) ∧ j' = tN (sB j (d k)))
theorem bit_says (T : TK g x a n) {i k : Nat} (hi : i ≤ n) (hk : k < 8) : f_C_hasBit g (nI (sys g x i)) (nI k) = some (bI (decide (¬ sX g x i k = -1))) := by
  have := sys_lt g x i
  rw [hasBit_C, hb_nI (by omega) (by omega), sys_bit g x i hk]; rfl
theorem bit_hears (T : TK g x a n) {i k : Nat} (hi : i ≤ n) (hk : k < 8) : f_C_hasBit g (nI (hrs g x i)) (nI k) = some (bI (decide (¬ hX g x i k = -1))) := by
  have := hrs_lt g x i
  rw [hasBit_C, hb_nI (by omega) (by omega), hrs_bit g x i hk]; rfl
theorem bI_f {P : Prop} [Decidable P] (h : ¬ P) : bI (decide P) = 0 := by rw [decide_eq_false h]; rfl
theorem bI_t {P : Prop} [Decidable P] (h : P) : ¬ bI (decide P) = 0 := by rw [decide_eq_true h]; decide
theorem passA (hl : Lay h) (F : AdF h x y a b n m w ms d k0) {i j : Nat} (hi : i ≤ n) (hj : j ≤ m) : ∀ e q N (g : AH) (X : Nat → Nat → Prop), q + e = w → e < N → AG h g n m Pd X T → OK (f_Ad_passFrom_L2 100 (nI i) (nI j) N (nI q) g) (fun g' => AG h g' n m Pd (fun i' j' => X i' j' ∨ ∃ k, q ≤ k ∧ k < w ∧ k < k0 ∧ Sb (sX h x) (hX h x) (sX h y) (hX h y) ms d k i j i' j') T) := by
  obtain ⟨⟨T1, T2, F3, F4⟩, F5, F6, F7, F8, F9⟩ := id F
  have n24 := T1.1
  have m24 := T2.1
  have Mc' := mch_T T1 T2
  intro e
  induction e with
  | zero =>
    intro q N g X h1 h2 A
    obtain ⟨N, rfl⟩ : ∃ q, N = q + 1 := ⟨N - 1, by omega⟩
    obtain ⟨R, wc, W, f, _⟩ := id A
    have lg := f.lay hl
    have v5 : hI g 100 5 = nI w := by rw [f.I (by unfold SAg; omega)]; exact F5
    rw [f_Ad_passFrom_L2, gI_n (c := 1) (kk100 lg), ob_v, v5, if_neg (nI_nlt (show w ≤ q by omega) (by omega))]
    exact OK.mk (A.cong (fun i' j' => ⟨Or.inl, fun z => z.elim id (fun ⟨k, z1, z2, _⟩ => by omega)⟩))
  | succ e ih =>
    intro q N g X h1 h2 A
    obtain ⟨N, rfl⟩ : ∃ q, N = q + 1 := ⟨N - 1, by omega⟩
    obtain ⟨R, wc, W, f, _⟩ := id A
    have lg := f.lay hl
    have Fg := F.fr hl f
    obtain ⟨⟨G1, G2, G3, G4⟩, G5, G6, G7, G8, G9⟩ := Fg
    obtain ⟨sxe, hxe⟩ := sag_m f
    obtain ⟨u1, u2, u3⟩ := G8 q (by omega)
    rw [f_Ad_passFrom_L2, gI_n (c := 1) (kk100 lg), ob_v, G5, if_pos (nI_lt (show q < w by omega) (by omega)), gR_n (c := 1) (kk100 lg), ob_v]
    simp only [LR lg, ob_v]
    rw [rI_n (kk102 lg) (show q < 5 by omega) (by decide), ob_v, u2, gR_n (c := 1) (kk100 lg), ob_v]
    simp only [LR lg, ob_v]
    rw [rI_n (kk103 lg) (show ms q < 8 by omega) (by decide), ob_v, u3]
    by_cases qk : q < k0
    · have d8 := F9 q qk
      have dm : ¬ nI (d q) = -1 := nI_nm1 (by omega)
      rw [if_pos qk]
      obtain ⟨mA1, mA2⟩ := mc_A Mc' hi u1 n24
      obtain ⟨mB1, mB2⟩ := mc_B Mc' hj d8 m24
      refine OK.bind (OK.mono (Q := fun g' => AG h g' n m Pd (fun i' j' => X i' j' ∨ (¬ sX h x i (ms q) = -1 ∧ ¬ hX h y j (d q) = -1 ∧ i' = tN (sX h x i (ms q)) ∧ j' = tN (hX h y j (d q)))) T) ?_ (fun g1 A1 => ?_))
      · rw [if_neg dm, gR_n (c := 1) (kk100 lg), ob_v, G3, ob_v, (G1.says hi).1, ob_v, ob_v, (G1.says hi).2, ob_v, bit_says G1 hi u1, ob_v, sxe]
        by_cases c1 : ¬ sX h x i (ms q) = -1
        · rw [if_neg (bI_t c1), gR_n (c := 1) (kk100 lg), ob_v, G4, ob_v, (G2.hears hj).1, ob_v, ob_v, (G2.hears hj).2, ob_v, bit_hears G2 hj d8, ob_v, hxe]
          by_cases c2 : ¬ hX h y j (d q) = -1
          · obtain ⟨p1, p2⟩ := mA1 c1
            obtain ⟨p3, p4⟩ := mB2 c2
            have b1 : f_Ta_behind g a (nI i) (1 : Int32) (nI (ms q)) = some (nI (tN (sX h x i (ms q)))) := by
              rw [← p2, ← sxe]; exact G1.behind (g := 1) hi (by decide) u1
            have b2 : f_Ta_behind g b (nI j) (0 : Int32) (nI (d q)) = some (nI (tN (hX h y j (d q)))) := by
              rw [← p4, ← hxe]
              have := G2.behind (g := 0) hj (by decide) d8
              rw [show 8 * 0 + d q = d q by omega] at this
              exact this
            rw [if_neg (bI_t c2)]
            simp only [gR_n (c := 1) (kk100 lg), G3, G4, ob_v, cv_n (c := 9) G1.2.2.2.1.1, b1, cv_n (c := 9) G2.2.2.2.1.1, b2, cv_n (c := 1) (kk100 lg)]
            refine OK.bind (OK.mono (reach_Ad hl A n24 m24 p1 p3) (fun g' A' => OK.mk (A'.cong (fun i' j' => ?_))))
            exact ⟨fun z => z.imp_right (fun z => ⟨c1, c2, z⟩), fun z => z.imp_right (fun z => z.2.2)⟩
          · rw [if_pos (bI_f c2)]
            exact OK.mk (A.cong (fun i' j' => ⟨Or.inl, fun z => z.elim id (fun z => absurd z.2.1 c2)⟩))
        · rw [if_pos (bI_f c1)]
          exact OK.mk (A.cong (fun i' j' => ⟨Or.inl, fun z => z.elim id (fun z => absurd z.1 c1)⟩))
      · obtain ⟨R', wc', W', f', _⟩ := id A1
        have lg' := f'.lay hl
        have Fg' := F.fr hl f'
        obtain ⟨⟨H1, H2, H3, H4⟩, _⟩ := Fg'
        obtain ⟨sxe', hxe'⟩ := sag_m f'
        have fin : ∀ (g2 : AH) (P : Nat → Nat → Prop), AG h g2 n m Pd (fun i' j' => (X i' j' ∨ (¬ sX h x i (ms q) = -1 ∧ ¬ hX h y j (d q) = -1 ∧ i' = tN (sX h x i (ms q)) ∧ j' = tN (hX h y j (d q)))) ∨ P i' j') T → (∀ i' j', P i' j' ↔ (¬ hX h x i (ms q) = -1 ∧ ¬ sX h y j (d q) = -1 ∧ i' = tN (hX h x i (ms q)) ∧ j' = tN (sX h y j (d q)))) → OK (f_Ad_passFrom_L2 100 (nI i) (nI j) N (nI (q + 1)) g2) (fun g' => AG h g' n m Pd (fun i' j' => X i' j' ∨ ∃ k, q ≤ k ∧ k < w ∧ k < k0 ∧ Sb (sX h x) (hX h x) (sX h y) (hX h y) ms d k i j i' j') T) := by
          intro g2 P A2 eP
          refine OK.mono (ih (q + 1) N g2 _ (by omega) (by omega) A2) (fun g' A' => A'.cong (fun i' j' => ?_))
          constructor
          · rintro (((z | z) | z) | ⟨k, z1, z2, z3, z4⟩)
            · exact Or.inl z
            · exact Or.inr ⟨q, by omega, by omega, qk, Or.inl z⟩
            · exact Or.inr ⟨q, by omega, by omega, qk, Or.inr ((eP i' j').mp z)⟩
            · exact Or.inr ⟨k, by omega, z2, z3, z4⟩
          · rintro (z | ⟨k, z1, z2, z3, z4⟩)
            · exact Or.inl (Or.inl (Or.inl z))
            · by_cases kq : k = q
              · subst kq
                rcases z4 with z | z
                · exact Or.inl (Or.inl (Or.inr z))
                · exact Or.inl (Or.inr ((eP i' j').mpr z))
              · exact Or.inr ⟨k, by omega, z2, z3, z4⟩
        have none2 : AG h g1 n m Pd (fun i' j' => (X i' j' ∨ (¬ sX h x i (ms q) = -1 ∧ ¬ hX h y j (d q) = -1 ∧ i' = tN (sX h x i (ms q)) ∧ j' = tN (hX h y j (d q)))) ∨ False) T := A1.cong (fun i' j' => ⟨Or.inl, fun z => z.elim id False.elim⟩)
        rw [if_neg dm, gR_n (c := 1) (kk100 lg'), ob_v, H3, ob_v, (H1.hears hi).1, ob_v, ob_v, (H1.hears hi).2, ob_v, bit_hears H1 hi u1, ob_v, hxe']
        by_cases c1 : ¬ hX h x i (ms q) = -1
        · rw [if_neg (bI_t c1), gR_n (c := 1) (kk100 lg'), ob_v, H4, ob_v, (H2.says hj).1, ob_v, ob_v, (H2.says hj).2, ob_v, bit_says H2 hj d8, ob_v, sxe']
          by_cases c2 : ¬ sX h y j (d q) = -1
          · obtain ⟨p1, p2⟩ := mA2 c1
            obtain ⟨p3, p4⟩ := mB1 c2
            have b1 : f_Ta_behind g1 a (nI i) (0 : Int32) (nI (ms q)) = some (nI (tN (hX h x i (ms q)))) := by
              rw [← p2, ← hxe']
              have := H1.behind (g := 0) hi (by decide) u1
              rw [show 8 * 0 + ms q = ms q by omega] at this
              exact this
            have b2 : f_Ta_behind g1 b (nI j) (1 : Int32) (nI (d q)) = some (nI (tN (sX h y j (d q)))) := by
              rw [← p4, ← sxe']; exact H2.behind (g := 1) hj (by decide) d8
            rw [if_neg (bI_t c2)]
            simp only [gR_n (c := 1) (kk100 lg'), H3, H4, ob_v, cv_n (c := 9) H1.2.2.2.1.1, b1, cv_n (c := 9) H2.2.2.2.1.1, b2, cv_n (c := 1) (kk100 lg')]
            refine OK.bind (OK.mono (reach_Ad hl A1 n24 m24 p1 p3) (fun g2 A2 => ?_))
            rw [nI_1]
            exact fin g2 _ A2 (fun i' j' => ⟨fun z => ⟨c1, c2, z⟩, fun z => z.2.2⟩)
          · rw [if_pos (bI_f c2), nI_1]
            exact fin g1 _ none2 (fun i' j' => ⟨False.elim, fun z => absurd z.2.1 c2⟩)
        · rw [if_pos (bI_f c1), nI_1]
          exact fin g1 _ none2 (fun i' j' => ⟨False.elim, fun z => absurd z.1 c1⟩)
    · rw [if_neg qk, if_pos rfl, ob_v, if_pos rfl, nI_1]
      refine OK.mono (ih (q + 1) N g X (by omega) (by omega) A) (fun g' A' => A'.cong (fun i' j' => ?_))
      exact ⟨fun z => z.imp_right (fun ⟨k, z1, z2⟩ => ⟨k, by omega, z2⟩), fun z => z.imp_right (fun ⟨k, z1, z2, z3, z4⟩ => ⟨k, by omega, z2, z3, z4⟩)⟩
end AA
