/-! letters() -/
section LT
variable {h : AH}
def bI (b : Bool) : Int32 := if b then 1 else 0
theorem let_scan (h0 : AH) (w : Int64) : ∀ (d i m : Nat) (ov : Bool) (n n' : Nat), i + d = 8 → d < n → d < n' → m ≤ i → (ov = false → m = i) → (∀ j, j < m → 1 ≤ by8 w j ∧ by8 w j ≤ 126) →
    (f_Pa_lettersIn_L7 h0 w n (nI m) (bI ov) (nI i) = some (-1) ∧ ∀ (g : AH) (k : Int32 → Option (Int32 × AH)), f_M_letters_L8 g 201 w k n' (nI m) (bI ov) (nI i) = some (-102, g)) ∨
    ∃ m', m' ≤ 8 ∧ (∀ j, j < m' → 1 ≤ by8 w j ∧ by8 w j ≤ 126) ∧ f_Pa_lettersIn_L7 h0 w n (nI m) (bI ov) (nI i) = some (nI m') ∧ ∀ (g : AH) (k : Int32 → Option (Int32 × AH)), f_M_letters_L8 g 201 w k n' (nI m) (bI ov) (nI i) = k (nI m') := by
  intro d
  induction d with
  | zero =>
    intro i m ov n n' hi hn hn' hm ho hb
    obtain ⟨n, rfl⟩ : ∃ q, n = q + 1 := ⟨n - 1, by omega⟩
    obtain ⟨n', rfl⟩ : ∃ q, n' = q + 1 := ⟨n' - 1, by omega⟩
    have : i = 8 := by omega
    subst this
    exact Or.inr ⟨m, hm, hb, by simp [f_Pa_lettersIn_L7, show ¬ nI 8 < 8 by decide], fun g k => by simp [f_M_letters_L8, show ¬ nI 8 < 8 by decide]⟩
  | succ d ih =>
    intro i m ov n n' hi hn hn' hm ho hb
    obtain ⟨n, rfl⟩ : ∃ q, n = q + 1 := ⟨n - 1, by omega⟩
    obtain ⟨n', rfl⟩ : ∃ q, n' = q + 1 := ⟨n' - 1, by omega⟩
    have i8 : i < 8 := by omega
    have l8 : nI i < 8 := nI_lt (b := 8) i8 (by decide)
    have e126 : ((126 : Int32) < nI (by8 w i)) ↔ 126 < by8 w i := nI_ltI (a := 126) (by decide) (by have := by8_lt w i; omega)
    have e0 : (nI (by8 w i) = (0 : Int32)) ↔ by8 w i = 0 := nI_eq (b := 0) (by have := by8_lt w i; omega) (by decide)
    by_cases q1 : 126 < by8 w i
    · exact Or.inl ⟨by simp [f_Pa_lettersIn_L7, l8, by8_u w i8, e126.mpr q1], fun g k => by simp [f_M_letters_L8, l8, by8_m w i8, e126.mpr q1]⟩
    · have q1' : ¬ (126 : Int32) < nI (by8 w i) := fun z => q1 (e126.mp z)
      by_cases q2 : by8 w i = 0
      · have q2' := e0.mpr q2
        have := ih (i + 1) m true n n' (by omega) (by omega) (by omega) (by omega) (by simp) hb
        cases ov <;> simpa [f_Pa_lettersIn_L7, f_M_letters_L8, l8, by8_u w i8, by8_m w i8, q1', q2', bI, nI_1] using this
      · have q2' : ¬ nI (by8 w i) = 0 := fun z => q2 (e0.mp z)
        cases ov with
        | true => exact Or.inl ⟨by simp [f_Pa_lettersIn_L7, l8, by8_u w i8, q1', q2', bI], fun g k => by simp [f_M_letters_L8, l8, by8_m w i8, q1', q2', bI]⟩
        | false =>
          have hmi := ho rfl
          subst hmi
          have := ih (m + 1) (m + 1) false n n' (by omega) (by omega) (by omega) (by omega) (by simp) (fun j hj => by
            by_cases e : j = m
            · subst e; omega
            · exact hb j (by omega))
          simpa [f_Pa_lettersIn_L7, f_M_letters_L8, l8, by8_u w i8, by8_m w i8, q1', q2', bI, nI_1] using this
theorem let_scan0 (h0 : AH) (w : Int64) : (f_Pa_lettersIn h0 w = some (-1) ∧ ∀ (g : AH) (k : Int32 → Option (Int32 × AH)), f_M_letters_L8 g 201 w k FU 0 0 0 = some (-102, g)) ∨
    ∃ m', m' ≤ 8 ∧ (∀ j, j < m' → 1 ≤ by8 w j ∧ by8 w j ≤ 126) ∧ f_Pa_lettersIn h0 w = some (nI m') ∧ ∀ (g : AH) (k : Int32 → Option (Int32 × AH)), f_M_letters_L8 g 201 w k FU 0 0 0 = k (nI m') :=
  let_scan h0 w 8 0 0 false FU FU (by omega) (by decide) (by decide) (by omega) (fun _ => rfl) (fun j hj => absurd hj (by omega))
theorem let_writeC (hl : Lay h) (w : Int64) {m : Nat} (hm : m ≤ 8) : ∀ n (s : Nat × AH), (s.1 ≤ m ∧ Lay s.2 ∧ ∃ p, p + m ≤ 80 ∧ hI s.2 5 1 = nI (p + s.1) ∧ hI h 5 1 = nI p ∧ (∀ i, i < s.1 → hI s.2 6 (p + i) = nI (by8 w i)) ∧ Fr (fun a k => (a = 5 ∧ k = 1) ∨ (a = 6 ∧ p ≤ k)) h s.2) → m - s.1 < n →
    OK (f_Pa_write_L3 5 w (nI m) n (nI s.1) s.2) (fun h1 => Lay h1 ∧ ∃ p, p + m ≤ 80 ∧ hI h1 5 1 = nI (p + m) ∧ hI h 5 1 = nI p ∧ (∀ i, i < m → hI h1 6 (p + i) = nI (by8 w i)) ∧ Fr (fun a k => (a = 5 ∧ k = 1) ∨ (a = 6 ∧ p ≤ k)) h h1) := by
  refine loopU (fun n (s : Nat × AH) => f_Pa_write_L3 5 w (nI m) n (nI s.1) s.2) _ (fun s => m - s.1) _ ?_
  intro n s ⟨h1, h2, p, h3, h4, h5, h6, h7⟩ ih
  obtain ⟨i, g⟩ := s
  simp only at h1 h2 h4 h6 h7 ih ⊢
  by_cases q : i < m
  · have l1 : nI i < nI m := nI_lt q (by omega)
    have l2 : nI (p + i) < 80 := nI_lt (b := 80) (by omega) (by decide)
    obtain ⟨g1, e1⟩ : ∃ g1, g1 = uI g 6 (p + i) (nI (by8 w i)) := ⟨_, rfl⟩
    obtain ⟨g2, e2⟩ : ∃ g2, g2 = uI g1 5 1 (nI (p + i + 1)) := ⟨_, rfl⟩
    have k1 : Lay g1 := by rw [e1]; exact h2.uI (by decide)
    have k2 : Lay g2 := by rw [e2]; exact k1.uI (by decide)
    have w1 : wI g 6 (nI (p + i)) (nI (by8 w i)) = some g1 := by rw [e1]; exact wI_n (by decide) (kk6 h2) (by omega) (by decide)
    have v1 : hI g1 5 1 = nI (p + i) := by rw [e1, hI_ne (by simp)]; exact h4
    have w2 : pI 7 g1 5 1 (nI (p + i + 1)) = some g2 := by rw [e2]; exact pI_n (c := 7) (kk5 k1)
    have := ih (i + 1, g2) ⟨by show i + 1 ≤ m; omega, k2, p, h3, by show hI g2 5 1 = _; rw [e2]; exact hI_eq, h5, fun j hj => ?_, ?_⟩ (by show m - (i + 1) < m - i; omega)
    · simp only [f_Pa_write_L3, l1, if_true, gI_n (c := 7) (kk5 h2), h4, l2, Option.bind_some, gR_n (c := 7) (kk5 h2), LR h2, by8_u w (show i < 8 by omega), w1, gI_n (c := 7) (kk5 k1), v1, w2, nI_1]
      exact this
    · show hI g2 6 (p + j) = _
      rw [e2, hI_ne (by simp), e1]
      by_cases e : j = i
      · subst e; exact hI_eq
      · rw [hI_ne (by omega)]; exact h6 j (by simp only at hj; omega)
    · show Fr _ h g2
      rw [e2, e1]
      exact h7.trans ((Fr.uI (Or.inr ⟨rfl, by omega⟩)).trans (Fr.uI (Or.inl ⟨rfl, rfl⟩)))
  · have : i = m := by omega
    subst this
    refine OK.eq (a := g) ?_ ⟨h2, p, h3, h4, h5, h6, h7⟩
    simp only [f_Pa_write_L3, if_neg (show ¬ nI i < nI i from nI_nlt (Nat.le_refl _) (by omega))]
theorem let_writeM (w : Int64) {m p : Nat} (hm : m ≤ 8) (hp : p + m ≤ 80) (hw : ∀ j, j < m → 1 ≤ by8 w j ∧ by8 w j ≤ 126) {ρ : Type} (Q : ρ → Prop) (k : AH → Option ρ) (hh : AH) (hk : ∀ g, Lay g → hI g 201 0 = nI p → (∀ i, i < m → hI g 202 (p + i) = nI (by8 w i)) → Fr (fun a k => a = 202 ∧ p ≤ k) hh g → OK (k g) Q) : ∀ n (s : Nat × AH), (s.1 ≤ m ∧ Lay s.2 ∧ hI s.2 201 0 = nI p ∧ (∀ i, i < s.1 → hI s.2 202 (p + i) = nI (by8 w i)) ∧ Fr (fun a k => a = 202 ∧ p ≤ k) hh s.2) → m - s.1 < n →
    OK (f_M_letters_L102 201 w (nI m) k n (nI s.1) s.2) Q := by
  refine loopU (fun n (s : Nat × AH) => f_M_letters_L102 201 w (nI m) k n (nI s.1) s.2) _ (fun s => m - s.1) _ ?_
  intro n s ⟨h1, h2, h4, h6, h7⟩ ih
  obtain ⟨i, g⟩ := s
  simp only at h1 h2 h4 h6 h7 ih ⊢
  by_cases q : i < m
  · have l1 : nI i < nI m := nI_lt q (by omega)
    obtain ⟨g1, e1⟩ : ∃ g1, g1 = uI g 202 (p + i) (nI (by8 w i)) := ⟨_, rfl⟩
    have k1 : Lay g1 := by rw [e1]; exact h2.uI (by decide)
    have w1 : wB g 202 (nI p + nI i) ((xlshr w ((8 : Int32) * nI i)).toInt32.toInt8.toInt32) = some g1 := by
      rw [e1, nI_add, wB_n (by decide) (kk202 h2) (by omega) (by decide), by8_b w (by omega) (hw i q).2]
    have := ih (i + 1, g1) ⟨by show i + 1 ≤ m; omega, k1, by show hI g1 201 0 = _; rw [e1, hI_ne (by simp)]; exact h4, fun j hj => ?_, ?_⟩ (by show m - (i + 1) < m - i; omega)
    · simp only [f_M_letters_L102, l1, if_true, gI_n (kk201 h2), h4, Option.bind_some, gR_n (kk201 h2), LR h2, w1, nI_1]
      exact this
    · show hI g1 202 (p + j) = _
      rw [e1]
      by_cases e : j = i
      · subst e; exact hI_eq
      · rw [hI_ne (by omega)]; exact h6 j (by simp only at hj; omega)
    · show Fr _ hh g1
      rw [e1]
      exact h7.trans (Fr.uI ⟨rfl, by omega⟩)
  · have : i = m := by omega
    subst this
    simp only [f_M_letters_L102, if_neg (show ¬ nI i < nI i from nI_nlt (Nat.le_refl _) (by omega))]
    exact hk g h2 h4 h6 h7
theorem o_letters {pn : Nat} {pg : Nat → Nat} (hl : Lay h) (rp : RPage h pn pg) (w : Int64) : ∃ r h1 h2, f_C_letters h 4 w = some (r, h1) ∧ f_M_letters h1 201 w = some (r, h2) ∧ (∃ pn' pg', RPage h2 pn' pg') ∧ Fr (fun a k => (a = 5 ∧ k = 1) ∨ a = 6 ∨ (a = 201 ∧ k = 0) ∨ a = 202) h h2 := by
  obtain ⟨p80, p5, p201, pp⟩ := rp
  rcases let_scan0 h w with ⟨e1, e2⟩ | ⟨m, m8, hw, e1, e2⟩
  · exact ⟨-102, h, h, by simp [f_C_letters, e1], by simp [f_M_letters, e2], ⟨pn, pg, p80, p5, p201, pp⟩, Fr.rfl'⟩
  · have ne : ¬ nI m = -1 := by
      intro z
      have := congrArg (fun x : Int32 => x < 0) z
      simp only [eq_iff_iff] at this
      exact nI_n0 m (by omega) (this.mpr (by decide))
    by_cases hf : pn + m ≤ 80
    · have lf : ¬ (80 : Int32) < nI (pn + m) := nI_nlt (b := pn + m) (a := 80) hf (by decide)
      obtain ⟨h1, ew, l1, p, q1, q2, q3, q4, q5⟩ := let_writeC hl w m8 FU (0, h) ⟨by simp, hl, pn, hf, p5, p5, fun i hi => absurd hi (by simp), Fr.rfl'⟩ (by show m - 0 < FU; unfold FU; omega)
      have hpp : p = pn := nI_inj (by omega) (by omega) (q3.symm.trans p5)
      subst hpp
      have v0 : hI h1 201 0 = nI p := by rw [q5.I (by simp)]; exact p201
      obtain ⟨r, em, r1, r2, r3⟩ := let_writeM w m8 hf hw (fun r : Int32 × AH => r.1 = nI (p + m) ∧ (∃ pn' pg', RPage r.2 pn' pg') ∧ Fr (fun a k => (a = 201 ∧ k = 0) ∨ a = 202) h1 r.2) (fun h14 =>
        (gI 12 h14 201 0).bind fun x15 =>
        (pI 12 h14 201 0 (x15 + nI m)).bind fun h16 =>
        (gI 12 h16 201 0).bind fun x17 =>
        some (x17, h16)) h1 (fun g lg v g1 g2 => by
          obtain ⟨g3, e3⟩ : ∃ g3, g3 = uI g 201 0 (nI (p + m)) := ⟨_, rfl⟩
          have l3 : Lay g3 := by rw [e3]; exact lg.uI (by decide)
          have v3 : hI g3 201 0 = nI (p + m) := by rw [e3]; exact hI_eq
          refine OK.eq (a := (nI (p + m), g3)) ?_ ⟨rfl, ⟨p + m, fun i => if i < p then pg i else by8 w (i - p), hf, ?_, v3, fun i hi => ?_⟩, ?_⟩
          · simp only [gI_n (kk201 lg), v, Option.bind_some, pI_n (kk201 lg), nI_add, ← e3, gI_n (kk201 l3), v3]
          · rw [e3, hI_ne (by simp), g2.I (by simp)]; exact q2
          · have z1 : hI g3 6 i = hI h1 6 i := by rw [e3, hI_ne (by simp), g2.I (by simp)]
            have z2 : hI g3 202 i = hI g 202 i := by rw [e3, hI_ne (by simp)]
            rw [z1, z2]
            dsimp only
            by_cases e : i < p
            · rw [if_pos e, q5.I (by omega), g2.I (by omega), q5.I (by simp)]
              exact pp i e
            · rw [if_neg e]
              have a1 := q4 (i - p) (by omega)
              have a2 := g1 (i - p) (by omega)
              rw [show p + (i - p) = i by omega] at a1 a2
              exact ⟨(hw _ (by omega)).1, (hw _ (by omega)).2, a1, a2⟩
          · rw [e3]
            exact (g2.mono (fun a k z => Or.inr z.1)).trans (Fr.uI (Or.inl ⟨rfl, rfl⟩))) FU (0, h1) ⟨by simp, l1, v0, fun i hi => absurd hi (by simp), Fr.rfl'⟩ (by show m - 0 < FU; unfold FU; omega)
      have ew' : f_Pa_write_L3 5 w (nI m) FU 0 h = some h1 := ew
      refine ⟨nI (p + m), h1, r.2, ?_, ?_, r2, (q5.mono ?_).trans (r3.mono ?_)⟩
      · simp [f_C_letters, e1, ne, gR_n (kk4 hl), LR hl, gI_n (c := 7) (kk5 hl), p5, nI_add, lf, cv_n (c := 7) (kk5 hl), f_Pa_write, ew', gR_n (kk4 l1), LR l1, gI_n (c := 7) (kk5 l1), q2]
      · rw [f_M_letters, e2]
        simp only [gI_n (kk201 l1), v0, Option.bind_some, nI_add, lf, if_false]
        rw [← r1]
        exact em
      · intro a k z; omega
      · intro a k z; omega
    · have lf : (80 : Int32) < nI (pn + m) := nI_lt (a := 80) (by omega) (by omega)
      refine ⟨-104, h, h, ?_, ?_, ⟨pn, pg, p80, p5, p201, pp⟩, Fr.rfl'⟩
      · simp [f_C_letters, e1, ne, gR_n (kk4 hl), LR hl, gI_n (c := 7) (kk5 hl), p5, nI_add, lf]
      · rw [f_M_letters, e2]
        simp [gI_n (kk201 hl), p201, nI_add, lf]
end LT
