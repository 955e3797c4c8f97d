/-! THE WALK, from the first place to the last -/
def stW (K : Nat) (sA hA sB hB : Mc) (t : Nat) (p : Pl) (S : WSt) : WSt := if K = 0 then ex0 sA hA sB hB t p 8 S else ex1 K sA hA sB hB t p S
def fdW (K : Nat) (sA hA sB hB : Mc) (eA eB : Nat → Int32) (p : Pl) : Nat := if K = 0 then fnd0 sA hA sB hB eA eB p else fnd1 K sA hA sB hB eA eB p
def bfs (K : Nat) (sA hA sB hB : Mc) (eA eB : Nat → Int32) : Nat → Nat → WSt → Nat → Nat → WSt × Nat × Nat
  | 0, _, S, f, w => (S, f, w)
  | d + 1, t, S, f, w => if t < S.1.1 ∧ S.1.2 = false then bfs K sA hA sB hB eA eB d (t + 1) (stW K sA hA sB hB t (S.2.1 t) S) (if f = 0 then fdW K sA hA sB hB eA eB (S.2.1 t) else f) (if f = 0 ∧ ¬ fdW K sA hA sB hB eA eB (S.2.1 t) = 0 then t else w) else (S, f, w)
def ch (S : WSt) (w : Nat) : Nat → Nat
  | 0 => w
  | j + 1 => S.2.2.1 (ch S w j)
theorem fdW_lt (K : Nat) (sA hA sB hB : Mc) (eA eB : Nat → Int32) (p : Pl) : fdW K sA hA sB hB eA eB p < 3 := by
  unfold fdW fnd0 fnd1
  repeat' split
  all_goals omega
theorem ch_le {S : WSt} (w : WOK S) {z : Nat} (hz : z < S.1.1) : ∀ j, (∀ i, i < j → 0 < ch S z i) → ch S z j + j ≤ z
  | 0, _ => Nat.le_refl _
  | j + 1, h => by
    have h1 := ch_le w hz j (fun i hi => h i (by omega))
    have h2 := (w.2.2.2.2 (ch S z j) (h j (by omega)) (by omega)).1
    show S.2.2.1 (ch S z j) + (j + 1) ≤ z
    omega
theorem ch_end {S : WSt} (w : WOK S) {z : Nat} (hz : z < S.1.1) : ∃ L, L ≤ z ∧ ch S z L = 0 ∧ ∀ j, j < L → 0 < ch S z j := by
  have ex : ∃ k, ch S z k = 0 := by
    apply Classical.byContradiction
    intro no
    have := ch_le w hz (z + 1) (fun i _ => Nat.pos_of_ne_zero (fun e => no ⟨i, e⟩))
    omega
  obtain ⟨L, L1, L2⟩ := pk_least (fun k => ch S z k = 0) ex
  refine ⟨L, ?_, L1, fun j hj => Nat.pos_of_ne_zero (L2 j hj)⟩
  have := ch_le w hz L (fun i hi => Nat.pos_of_ne_zero (L2 i hi))
  omega
theorem ch_cong {n m : Nat} {S S' : WSt} (w : WOK S) (M : Mor n m S S') {z : Nat} (hz : z < S.1.1) : ∀ j, (∀ i, i < j → 0 < ch S z i) → ch S' z j = ch S z j
  | 0, _ => rfl
  | j + 1, h => by
    have h1 := ch_cong w M hz j (fun i hi => h i (by omega))
    have h2 := ch_le w hz j (fun i hi => h i (by omega))
    show S'.2.2.1 (ch S' z j) = S.2.2.1 (ch S z j)
    rw [h1, (M.2.2.2 (ch S z j) (by omega)).2.1]
/-- the way to place z, as an array holds it -/
def WayA (S : WSt) (z : Nat) (L : Nat) (ar : Nat → Int32) : Prop := L ≤ z ∧ ch S z L = 0 ∧ (∀ j, j < L → 0 < ch S z j) ∧ ∀ i, i < L → ar i = nI (S.2.2.2 (ch S z (L - 1 - i)))
theorem WayA.more {n m : Nat} {S S' : WSt} (w : WOK S) (M : Mor n m S S') {z L : Nat} (hz : z < S.1.1) {ar : Nat → Int32} (A : WayA S z L ar) : WayA S' z L ar := by
  obtain ⟨a1, a2, a3, a4⟩ := A
  have cc : ∀ j, j ≤ L → ch S' z j = ch S z j := fun j hj => ch_cong w M hz j (fun i hi => a3 i (by omega))
  refine ⟨a1, by rw [cc L (Nat.le_refl _)]; exact a2, fun j hj => by rw [cc j (by omega)]; exact a3 j hj, fun i hi => ?_⟩
  have le := ch_le w hz (L - 1 - i) (fun q hq => a3 q (by omega))
  rw [a4 i hi, cc (L - 1 - i) (by omega), (M.2.2.2 (ch S z (L - 1 - i)) (by omega)).2.2]
theorem WayA.uni {S : WSt} {z L L' : Nat} {ar ar' : Nat → Int32} (A : WayA S z L ar) (B : WayA S z L' ar') : L = L' ∧ ∀ i, i < L → ar i = ar' i := by
  obtain ⟨a1, a2, a3, a4⟩ := A
  obtain ⟨b1, b2, b3, b4⟩ := B
  have e : L = L' := by
    rcases Nat.lt_trichotomy L L' with q | q | q
    · have := b3 L q; omega
    · exact q
    · have := a3 L' q; omega
  subst e
  exact ⟨rfl, fun i hi => by rw [a4 i hi, b4 i hi]⟩
section KW
variable {g : AH} {S : WSt}
theorem keepWay_C (hl : Lay g) (C : CW g S) {z : Nat} (hz : z < S.1.1) : OK (f_Wa_keepWay g 92 (nI z)) (fun g' => Dfr (fun a k => (a = 92 ∧ k = 7) ∨ a = 97) g g' ∧ ∃ L, hI g' 92 7 = nI L ∧ WayA S z L (hI g' 97)) := by
  obtain ⟨W, C1, C2, C3, C4, C5⟩ := C
  obtain ⟨L, L1, L2, L3⟩ := ch_end W hz
  have w4 := W.1
  obtain ⟨g0, e0⟩ : ∃ g0, g0 = uI g 92 7 0 := ⟨_, rfl⟩
  have f0 : Dfr (fun a k => (a = 92 ∧ k = 7) ∨ a = 97) g g0 := by rw [e0]; exact Dfr.uI (by decide) (Or.inl ⟨rfl, rfl⟩)
  have p0 : pI 10 g 92 7 0 = some g0 := by rw [e0]; exact pI_n (c := 10) (kk92 hl)
  have chl : ∀ j, j ≤ L → ch S z j < 4000 := fun j hj => by have := ch_le W hz j (fun i hi => L3 i (by omega)); omega
  have chn : ∀ j, j < L → 0 < ch S z j ∧ ch S z j < S.1.1 := fun j hj => ⟨L3 j hj, by have := ch_le W hz j (fun i hi => L3 i (by omega)); omega⟩
  -- turned round
  have second : ∀ (gF : AH), Dfr (fun a k => (a = 92 ∧ k = 7) ∨ a = 97) g gF → hI gF 92 7 = nI L → (∀ i, i < L → hI gF 97 i = nI (S.2.2.2 (ch S z i))) → OK (f_Wa_keepWay_L58 92 FU 0 gF) (fun g' => Dfr (fun a k => (a = 92 ∧ k = 7) ∨ a = 97) g g' ∧ ∃ L, hI g' 92 7 = nI L ∧ WayA S z L (hI g' 97)) := by
    intro gF fF vF aF
    have main : ∀ N (s : Nat × AH), (s.1 ≤ L / 2 ∧ Dfr (fun a k => (a = 92 ∧ k = 7) ∨ a = 97) g s.2 ∧ hI s.2 92 7 = nI L ∧ ∀ i, i < L → hI s.2 97 i = nI (S.2.2.2 (ch S z (if i < s.1 ∨ L - s.1 ≤ i then L - 1 - i else i)))) → L / 2 - s.1 < N → OK (f_Wa_keepWay_L58 92 N (nI s.1) s.2) (fun g' => Dfr (fun a k => (a = 92 ∧ k = 7) ∨ a = 97) g g' ∧ ∃ L, hI g' 92 7 = nI L ∧ WayA S z L (hI g' 97)) := by
      refine loopU (fun N (s : Nat × AH) => f_Wa_keepWay_L58 92 N (nI s.1) s.2) _ (fun s => L / 2 - s.1) _ ?_
      intro N s ⟨h1, h2, h3, h4⟩ ih
      obtain ⟨i, e⟩ := s
      dsimp only at h1 h2 h3 h4 ih ⊢
      have le := h2.lay hl
      have dv : nI L / (2 : Int32) = nI (L / 2) := pk_div (a := L) (d := 2) (by omega) (by decide) (by decide)
      by_cases q : i < L / 2
      · have ix : (nI L - (1 : Int32)) - nI i = nI (L - 1 - i) := by rw [nI_sub1 (show 0 < L by omega), pk_sub (show i ≤ L - 1 by omega)]
        have v1 := h4 i (by omega)
        rw [if_neg (by omega)] at v1
        have v2 := h4 (L - 1 - i) (by omega)
        rw [if_neg (by omega)] at v2
        obtain ⟨g1, e1⟩ : ∃ g1, g1 = uI e 97 i (nI (S.2.2.2 (ch S z (L - 1 - i)))) := ⟨_, rfl⟩
        have f1 : Dfr (fun a k => (a = 92 ∧ k = 7) ∨ a = 97) e g1 := by rw [e1]; exact Dfr.uI (by decide) (Or.inr rfl)
        have l1 := f1.lay le
        have p1 : wI e 97 (nI i) (nI (S.2.2.2 (ch S z (L - 1 - i)))) = some g1 := by rw [e1]; exact wI_n (by decide) (kk97 le) (show i < 4000 by omega) (by decide)
        have i7 : hI g1 92 7 = nI L := by rw [e1, hI_ne (by omega)]; exact h3
        obtain ⟨g2, e2⟩ : ∃ g2, g2 = uI g1 97 (L - 1 - i) (nI (S.2.2.2 (ch S z i))) := ⟨_, rfl⟩
        have f2 : Dfr (fun a k => (a = 92 ∧ k = 7) ∨ a = 97) g1 g2 := by rw [e2]; exact Dfr.uI (by decide) (Or.inr rfl)
        have p2 : wI g1 97 (nI (L - 1 - i)) (nI (S.2.2.2 (ch S z i))) = some g2 := by rw [e2]; exact wI_n (by decide) (kk97 l1) (show L - 1 - i < 4000 by omega) (by decide)
        simp only [f_Wa_keepWay_L58, gI_n (c := 10) (kk92 le), h3, ob_v, dv, nI_lt q (by omega), if_true, gR_n (c := 10) (kk92 le), LR le, rI_n (kk97 le) (show i < 4000 by omega) (by decide), v1, ix, rI_n (kk97 le) (show L - 1 - i < 4000 by omega) (by decide), v2, p1, gR_n (c := 10) (kk92 l1), LR l1, gI_n (c := 10) (kk92 l1), i7, p2, nI_1]
        refine ih (i + 1, g2) ⟨by dsimp only; omega, h2.trans (f1.trans f2), ?_, fun j hj => ?_⟩ (by dsimp only; omega)
        · dsimp only; rw [e2, hI_ne (by omega)]; exact i7
        · dsimp only
          rw [e2]
          by_cases z1 : j = L - 1 - i
          · rw [z1, hI_eq, if_pos (by omega), show L - 1 - (L - 1 - i) = i by omega]
          · rw [hI_ne (by omega), e1]
            by_cases z2 : j = i
            · rw [z2, hI_eq, if_pos (by omega)]
            · rw [hI_ne (by omega), h4 j hj]
              by_cases z3 : j < i ∨ L - i ≤ j
              · rw [if_pos z3, if_pos (by omega)]
              · rw [if_neg z3, if_neg (by omega)]
      · simp only [f_Wa_keepWay_L58, gI_n (c := 10) (kk92 le), h3, ob_v, dv, nI_nlt (show L / 2 ≤ i by omega) (by omega), if_false]
        refine OK.mk ⟨h2, L, h3, L1, L2, L3, fun j hj => ?_⟩
        rw [h4 j hj]
        by_cases z3 : j < i ∨ L - i ≤ j
        · rw [if_pos z3]
        · rw [if_neg z3, show L - 1 - j = j by omega]
    exact main FU (0, gF) ⟨Nat.zero_le _, fF, vF, fun i hi => by rw [if_neg (by dsimp only; omega)]; exact aF i hi⟩ (by show L / 2 - 0 < FU; unfold FU; omega)
  -- back to the first place
  have first : ∀ N (s : Nat × AH), (s.1 ≤ L ∧ Dfr (fun a k => (a = 92 ∧ k = 7) ∨ a = 97) g s.2 ∧ hI s.2 92 7 = nI s.1 ∧ ∀ i, i < s.1 → hI s.2 97 i = nI (S.2.2.2 (ch S z i))) → L - s.1 < N → OK (f_Wa_keepWay_L7 92 (fun h15 => f_Wa_keepWay_L58 92 FU (0 : Int32) h15) N (nI (ch S z s.1)) s.2) (fun g' => Dfr (fun a k => (a = 92 ∧ k = 7) ∨ a = 97) g g' ∧ ∃ L, hI g' 92 7 = nI L ∧ WayA S z L (hI g' 97)) := by
    refine loopU (fun N (s : Nat × AH) => f_Wa_keepWay_L7 92 (fun h15 => f_Wa_keepWay_L58 92 FU (0 : Int32) h15) N (nI (ch S z s.1)) s.2) _ (fun s => L - s.1) _ ?_
    intro N s ⟨h1, h2, h3, h4⟩ ih
    obtain ⟨j, e⟩ := s
    dsimp only at h1 h2 h3 h4 ih ⊢
    have le := h2.lay hl
    by_cases q : j < L
    · obtain ⟨c1, c2⟩ := chn j q
      have c3 : (0 : Int32) < nI (ch S z j) := nI_lt (a := 0) c1 (by omega)
      have j4 : nI j < 4000 := nI_lt (b := 4000) (by omega) (by decide)
      have v94 : hI e 94 (ch S z j) = nI (S.2.2.1 (ch S z j)) := by rw [h2.I (by omega)]; exact (C4 _ c1 c2).1
      have v95 : hI e 95 (ch S z j) = nI (S.2.2.2 (ch S z j)) := by rw [h2.I (by omega)]; exact (C4 _ c1 c2).2
      obtain ⟨g1, e1⟩ : ∃ g1, g1 = uI e 97 j (nI (S.2.2.2 (ch S z j))) := ⟨_, rfl⟩
      have f1 : Dfr (fun a k => (a = 92 ∧ k = 7) ∨ a = 97) e g1 := by rw [e1]; exact Dfr.uI (by decide) (Or.inr rfl)
      have l1 := f1.lay le
      have p1 : wI e 97 (nI j) (nI (S.2.2.2 (ch S z j))) = some g1 := by rw [e1]; exact wI_n (by decide) (kk97 le) (show j < 4000 by omega) (by decide)
      have i7 : hI g1 92 7 = nI j := by rw [e1, hI_ne (by omega)]; exact h3
      obtain ⟨g2, e2⟩ : ∃ g2, g2 = uI g1 92 7 (nI (j + 1)) := ⟨_, rfl⟩
      have f2 : Dfr (fun a k => (a = 92 ∧ k = 7) ∨ a = 97) g1 g2 := by rw [e2]; exact Dfr.uI (by decide) (Or.inl ⟨rfl, rfl⟩)
      have l2 := f2.lay l1
      have p2 : pI 10 g1 92 7 (nI (j + 1)) = some g2 := by rw [e2]; exact pI_n (c := 10) (kk92 l1)
      have v94' : hI g2 94 (ch S z j) = nI (S.2.2.1 (ch S z j)) := by rw [f2.I (by omega), f1.I (by omega)]; exact v94
      simp only [f_Wa_keepWay_L7, c3, if_true, gI_n (c := 10) (kk92 le), h3, ob_v, j4, gR_n (c := 10) (kk92 le), LR le, rI_n (kk95 le) (show ch S z j < 4000 by omega) (by decide), v95, p1, gI_n (c := 10) (kk92 l1), i7, nI_1, p2, gR_n (c := 10) (kk92 l2), LR l2, rI_n (kk94 l2) (show ch S z j < 4000 by omega) (by decide), v94']
      refine ih (j + 1, g2) ⟨by dsimp only; omega, h2.trans (f1.trans f2), ?_, fun i hi => ?_⟩ (by dsimp only; omega)
      · dsimp only; rw [e2, hI_eq]
      · dsimp only at hi ⊢
        rw [e2, hI_ne (by omega), e1]
        by_cases w : i = j
        · rw [w, hI_eq]
        · rw [hI_ne (by omega)]; exact h4 i (by omega)
    · have : j = L := by omega
      subst this
      have c0 : ¬ (0 : Int32) < nI (ch S z j) := by rw [L2]; decide
      simp only [f_Wa_keepWay_L7, c0, if_false]
      exact second e h2 h3 h4
  simp only [f_Wa_keepWay, p0, ob_v]
  exact first FU (0, g0) ⟨Nat.zero_le _, f0, by rw [e0, hI_eq]; rfl, fun i hi => absurd hi (by simp)⟩ (by show L - 0 < FU; unfold FU; omega)
end KW
