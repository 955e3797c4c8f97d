/-! set() -/
/-- the cells of helpers and talks lie apart -/
def Dj (hn : Nat) (ha : Nat → Nat) (tn : Nat) (ta : Nat → Nat) : Prop := (∀ s s', s < hn → s' < hn → s ≠ s' → ha s + 2 ≤ ha s' ∨ ha s' + 2 ≤ ha s) ∧ (∀ s t, s < hn → t < tn → ha s + 2 ≤ ta t ∨ ta t + 4 ≤ ha s) ∧ ∀ t t', t < tn → t' < tn → t ≠ t' → ta t + 4 ≤ ta t' ∨ ta t' + 4 ≤ ta t
section SE
variable {h : AH}
theorem tLT_at (hl : Lay h) {w : Nat} (hw : w < 4) : rI 1 h 0 (nI w) = some (tLT w) := by
  rw [rI_n hl.2.2.1.1 hw (by decide), hl.2.2.2.1 w hw]
theorem tGT_at (hl : Lay h) {w : Nat} (hw : w < 4) : rI 1 h 1 (nI w) = some (tGT w) := by
  rw [rI_n hl.2.2.1.2.1 hw (by decide), hl.2.2.2.2.1 w hw]
/-- what set() takes for each of its five places -/
def okV (hn w : Nat) (v : Int32) : Prop := if w = 0 then ∃ n, n ≤ 50 ∧ v = nI n else if w = 1 then ∃ n, n ≤ 9 ∧ v = nI n else if w = 2 then ∃ n, 1 ≤ n ∧ n ≤ 3 ∧ v = nI n else if w = 3 then ∃ n, n ≤ 3 ∧ v = nI n else v = -1 ∨ ∃ n, n < hn ∧ v = nI n
theorem rng_nI (v : Int32) {lo hi : Nat} (hh : hi < 2 ^ 31) (h1 : ¬ v < nI lo) (h2 : ¬ nI hi < v) (hlo : lo < 2 ^ 31) : ∃ n, lo ≤ n ∧ n ≤ hi ∧ v = nI n := by
  have a1 : ¬ v.toInt < (lo : Int) := fun q => h1 (Int32.lt_iff_toInt_lt.mpr (by rw [nI_toInt hlo]; exact q))
  have a2 : ¬ (hi : Int) < v.toInt := fun q => h2 (Int32.lt_iff_toInt_lt.mpr (by rw [nI_toInt hh]; exact q))
  refine ⟨v.toInt.toNat, by omega, by omega, ?_⟩
  apply Int32.toInt_inj.mp
  rw [nI_toInt (by omega)]
  omega
/-- the reference's two bounds -/
theorem M_bounds {w : Nat} (hw : w < 4) : ((if nI w = 2 then some (1 : Int32) else if nI w = 4 then some (-1) else some 0) : Option Int32) = some (tLT w) ∧ ((if nI w = 0 then some (50 : Int32) else if nI w = 1 then some 9 else if nI w = 4 then some 8 else some 3) : Option Int32) = some (tGT w) := by
  rcases (show w = 0 ∨ w = 1 ∨ w = 2 ∨ w = 3 by omega) with rfl | rfl | rfl | rfl <;> exact ⟨by decide, by decide⟩
theorem HP.put {hn s a w : Nat} {v : Int32} {s' a' : Nat} (hl : Lay h) (r : HP h hn s' a') (hs : s < 8) (hs' : s' < 8) (h37 : 237 ≤ a) (hw : w < 5) (hv : okV hn w v) (e : s' = s → a' = a) (ne : s' ≠ s → a' + 1 ≠ a + 1 ∧ a' ≠ a + 1) (h37' : 237 ≤ a') (hne : a' ≠ a + 1) : HP (uI (uI h (a + 1) w v) 209 (5 * s + w) v) hn s' a' := by
  obtain ⟨r1, r2, r3, r4, r5, r6, r7, r8, r9, q1, q2, q3, q4, q5, q6, q7, q8⟩ := r
  have e9 : ∀ k, hI (uI (uI h (a + 1) w v) 209 (5 * s + w) v) (a' + 1) k = if s' = s ∧ k = w then v else hI h (a' + 1) k := by
    intro k
    rw [hI_ne (by omega), HS.1]
    by_cases es : s' = s
    · have := e es; subst this; simp [es]
    · have : a' ≠ a := by have := (ne es).1; omega
      simp [es, this]
  have e20 : ∀ k, k < 5 → hI (uI (uI h (a + 1) w v) 209 (5 * s + w) v) 209 (5 * s' + k) = if s' = s ∧ k = w then v else hI h 209 (5 * s' + k) := by
    intro k hk
    rw [HS.1, hI_ne (by omega)]
    by_cases es : s' = s
    · subst es
      by_cases ek : k = w
      · subst ek; simp
      · simp [ek, show ¬ (5 * s' + k = 5 * s' + w) by omega]
    · simp [es, show ¬ (5 * s' + k = 5 * s + w) by omega]
  have eo : ∀ b k, b = 206 ∨ b = 207 ∨ b = 208 → hI (uI (uI h (a + 1) w v) 209 (5 * s + w) v) b k = hI h b k := by
    intro b k hb
    rw [hI_ne (by omega), hI_ne (by omega)]
  have hk5 : ∀ k, 5 ≤ k → ¬ (s' = s ∧ k = w) := fun k hk q => by omega
  refine ⟨r1, r2, r3, r4, r5, fun k hk => ?_, ?_, ?_, ?_, ?_, ?_, ?_, ?_, ?_, ?_, ?_, ?_⟩
  · rw [e9, e20 k hk]
    split
    · rfl
    · exact r6 k hk
  · rw [e9, if_neg (hk5 5 (by omega)), eo _ _ (by omega)]; exact r7
  · rw [e9, if_neg (hk5 6 (by omega)), eo _ _ (by omega)]; exact r8
  · rw [e9, if_neg (hk5 7 (by omega)), eo _ _ (by omega)]; exact r9
  · have := e20 0 (by omega)
    simp only [Nat.add_zero] at this
    rw [this]
    split
    · rename_i z; obtain ⟨-, rfl⟩ := z; exact hv
    · exact q1
  · rw [e20 1 (by omega)]
    split
    · rename_i z; obtain ⟨-, rfl⟩ := z; exact hv
    · exact q2
  · rw [e20 2 (by omega)]
    split
    · rename_i z; obtain ⟨-, rfl⟩ := z; exact hv
    · exact q3
  · rw [e20 3 (by omega)]
    split
    · rename_i z; obtain ⟨-, rfl⟩ := z; exact hv
    · exact q4
  · rw [e20 4 (by omega)]
    split
    · rename_i z; obtain ⟨-, rfl⟩ := z; exact hv
    · exact q5
  · rw [eo _ _ (by omega)]; exact q6
  · rw [eo _ _ (by omega)]; exact q7
  · rw [eo _ _ (by omega)]; exact q8
theorem o_set {hn tn : Nat} {ha ta : Nat → Nat} (hl : Lay h) (rh : RHelp h hn ha) (dj : Dj hn ha tn ta) (x y z : Int32) : ∃ r h1 h2, f_C_set h 4 x y z = some (r, h1) ∧ f_M_set h1 201 x y z = some (r, h2) ∧ RHelp h2 hn ha ∧ Fr (fun a _ => (∃ s, s < hn ∧ a = ha s + 1) ∨ a = 209) h h2 := by
  have h8 := rh.1
  by_cases hx : ∃ s, s < hn ∧ x = nI s
  · obtain ⟨s, hs, rfl⟩ := hx
    obtain ⟨tC, tM⟩ := (helpC hl rh).1 s hs
    obtain ⟨-, P⟩ := rh.2.2.2 s hs
    obtain ⟨p1, p2, p3, p4, p5, p6, p7⟩ := id P
    have pre : ∀ (w : Nat), w < 5 → okV hn w z → ∃ r h1 h2, ((rI 1 h (ha s + 1) (nI w)).bind fun r => (wI h (ha s + 1) (nI w) z).bind fun h1 => some (r, h1)) = some (r, h1) ∧ ((rI 1 h1 209 (nI (5 * s + w))).bind fun r => (wI h1 209 (nI (5 * s + w)) z).bind fun h2 => some (r, h2)) = some (r, h2) ∧ RHelp h2 hn ha ∧ Fr (fun a _ => (∃ s, s < hn ∧ a = ha s + 1) ∨ a = 209) h h2 ∧ h1 = uI h (ha s + 1) w z := by
      intro w hw hv
      have hl1 : Lay (uI h (ha s + 1) w z) := hl.uI (by omega)
      refine ⟨hI h (ha s + 1) w, uI h (ha s + 1) w z, uI (uI h (ha s + 1) w z) 209 (5 * s + w) z, ?_, ?_, ⟨h8, ?_, ?_, fun s' hs' => ⟨(rh.2.2.2 s' hs').1, ?_⟩⟩, (Fr.uI (Or.inl ⟨s, hs, rfl⟩)).trans (Fr.uI (Or.inr rfl)), rfl⟩
      · rw [rI_n p4 (by omega) (by decide), wI_n (by omega) p4 (by omega) (by decide)]; rfl
      · rw [rI_n (kk209 hl1) (by omega) (by decide), wI_n (by omega) (kk209 hl1) (by omega) (by decide), hI_ne (by omega), p6 w hw]; rfl
      · rw [hI_ne (by omega), hI_ne (by omega)]; exact rh.2.1
      · rw [hI_ne (by omega), hI_ne (by omega)]; exact rh.2.2.1
      · have P' := (rh.2.2.2 s' hs').2
        have dd : s' ≠ s → ha s' + 2 ≤ ha s ∨ ha s + 2 ≤ ha s' := fun q => dj.1 s' s hs' hs q
        have P1 := P'.1
        have hne : ha s' ≠ ha s + 1 := by
          by_cases q : s' = s
          · subst q; omega
          · have := dd q; omega
        exact HP.put hl P' (by omega) (by omega) p1 hw hv (fun q => by rw [q]) (fun q => by have := dd q; omega) P1 hne
    have ref : ∀ (v : Int32), ∃ r h1 h2, some (v, h) = some (r, h1) ∧ some (v, h1) = some (r, h2) ∧ RHelp h2 hn ha ∧ Fr (fun a _ => (∃ s, s < hn ∧ a = ha s + 1) ∨ a = 209) h h2 := fun v => ⟨v, h, h, rfl, rfl, rh, Fr.rfl'⟩
    have e4 : (nI 4 < y) ↔ ¬ y < nI 5 := by
      rw [Int32.lt_iff_toInt_lt, Int32.lt_iff_toInt_lt, nI_toInt (by decide), nI_toInt (by decide)]
      omega
    have eC : f_C_set h 4 (nI s) y z = if y < 0 then some (-101, h) else if ¬ y < nI 5 then some (-101, h) else if y = nI 4 then (if z = -1 then ((rI 1 h (ha s + 1) y).bind fun r => (wI h (ha s + 1) y z).bind fun h1 => some (r, h1)) else (f_Ro_helperNumbered h 107 z).bind fun q => onl q (some (-101, h)) fun _ => ((rI 1 h (ha s + 1) y).bind fun r => (wI h (ha s + 1) y z).bind fun h1 => some (r, h1))) else (rI 1 h 0 y).bind fun lo => if z < lo then some (-102, h) else (rI 1 h 1 y).bind fun hi => if hi < z then some (-102, h) else ((rI 1 h (ha s + 1) y).bind fun r => (wI h (ha s + 1) y z).bind fun h1 => some (r, h1)) := by
      simp only [f_C_set, gR_n (kk4 hl), LR hl, Option.bind_some, cv_n (c := 8) (kk107 hl), tC, onl, gR_n (c := 4) p3, p5, e4, show (4 : Int32) = nI 4 from rfl]
    have isH : ∀ (g : AH), Lay g → hI g 201 9 = nI hn → ∀ u : Int32, f_M_isHelper g 201 u = some (if u < 0 then 0 else if u < nI hn then 1 else 0) := by
      intro g hg e u
      simp only [f_M_isHelper, gI_n (kk201 hg), e, Option.bind_some, in_M0 g u (show hn < 2 ^ 30 by omega)]
      by_cases q : u < 0
      · simp [q]
      · by_cases q2 : u < nI hn <;> simp [q, q2]
    have eM : ∀ (g : AH), Lay g → hI g 201 9 = nI hn → f_M_set g 201 (nI s) y z = if y < 0 then some (-101, g) else if ¬ y < nI 5 then some (-101, g) else if y = nI 4 then (if z = -1 then ((rI 1 g 209 (nI (5 * s) + y)).bind fun r => (wI g 209 (nI (5 * s) + y) z).bind fun h1 => some (r, h1)) else (if z < 0 then some (-101, g) else if z < nI hn then ((rI 1 g 209 (nI (5 * s) + y)).bind fun r => (wI g 209 (nI (5 * s) + y) z).bind fun h1 => some (r, h1)) else some (-101, g))) else (if y = 2 then some (1 : Int32) else if y = 4 then some (-1) else some 0).bind fun lo => (if y = 0 then some (50 : Int32) else if y = 1 then some 9 else if y = 4 then some 8 else some 3).bind fun hi => if z < lo then some (-102, g) else if hi < z then some (-102, g) else ((rI 1 g 209 (nI (5 * s) + y)).bind fun r => (wI g 209 (nI (5 * s) + y) z).bind fun h1 => some (r, h1)) := by
      intro g hg e
      simp only [f_M_set, cv_n (kk201 hg), isH g hg e, nI_n0 s (by omega), nI_lt hs (by omega), if_true, if_false, Option.bind_some, show ¬ ((1 : Int32) = 0) by decide]
      rw [show (4 : Int32) = nI 4 from rfl, in_Mk g y (show 4 < 2 ^ 30 by decide)]
      simp only [Option.bind_some, gR_n (kk201 hg), LR hg, in_M, show (5 : Int32) = nI 5 from rfl, pk_mul]
      by_cases q : y < 0
      · simp [q]
      · by_cases q2 : y < nI 5
        · by_cases q3 : y = nI 4
          · subst q3
            simp only [q, q2, if_true, if_false, show ¬ ((1 : Int32) = 0) by decide, show ¬ (nI 4 = 2) by decide, show ¬ (nI 4 = 0) by decide, show ¬ (nI 4 = 1) by decide, Option.bind_some, not_true_eq_false]
            by_cases q4 : z = -1
            · subst q4
              simp
            · simp only [q4, if_false]
              by_cases q5 : z < 0
              · simp [q5]
              · by_cases q6 : z < nI hn
                · have b1 : ¬ z < -1 := fun w => q5 (by
                    have := Int32.lt_iff_toInt_lt.mp w
                    exact Int32.lt_iff_toInt_lt.mpr (by have e1 : (-1 : Int32).toInt = -1 := rfl; have e2 : (0 : Int32).toInt = 0 := rfl; omega))
                  have b2 : ¬ (8 : Int32) < z := fun w => by
                    have a1 := Int32.lt_iff_toInt_lt.mp w
                    have a2 := Int32.lt_iff_toInt_lt.mp q6
                    rw [nI_toInt (by omega)] at a2
                    have e1 : (8 : Int32).toInt = 8 := rfl
                    omega
                  simp [q5, q6, b1, b2]
                · simp [q5, q6]
          · simp only [q, q2, q3, if_true, if_false, show ¬ ((1 : Int32) = 0) by decide, not_true_eq_false]
            congr 1
            funext lo
            congr 1
            funext hi
            by_cases b1 : z < lo
            · simp [b1]
            · by_cases b2 : hi < z <;> simp [b1, b2]
        · simp [q, q2]
    rcases ix_cases y (show 5 < 2 ^ 31 by decide) with ⟨w, hw, rfl⟩ | h0 | ⟨h0, h1⟩
    · have c1 : ¬ nI w < 0 := nI_n0 w (by omega)
      have c2 : ¬ ¬ nI w < nI 5 := fun q => q (nI_lt hw (by decide))
      have go : okV hn w z → (∃ r h1 h2, ((rI 1 h (ha s + 1) (nI w)).bind fun r => (wI h (ha s + 1) (nI w) z).bind fun h1 => some (r, h1)) = some (r, h1) ∧ ((rI 1 h1 209 (nI (5 * s) + nI w)).bind fun r => (wI h1 209 (nI (5 * s) + nI w) z).bind fun h2 => some (r, h2)) = some (r, h2) ∧ (Lay h1 ∧ hI h1 201 9 = nI hn) ∧ RHelp h2 hn ha ∧ Fr (fun a _ => (∃ s, s < hn ∧ a = ha s + 1) ∨ a = 209) h h2) := by
        intro hv
        obtain ⟨r, h1, h2, a1, a2, a3, a4, a5⟩ := pre w hw hv
        refine ⟨r, h1, h2, a1, by rw [nI_add]; exact a2, ⟨by rw [a5]; exact hl.uI (by omega), by rw [a5, hI_ne (by omega)]; exact rh.2.2.1⟩, a3, a4⟩
      by_cases w4 : w = 4
      · subst w4
        by_cases z1 : z = -1
        · obtain ⟨r, h1, h2, a1, a2, ⟨a3, a4⟩, a5, a6⟩ := go (Or.inl z1)
          refine ⟨r, h1, h2, ?_, ?_, a5, a6⟩
          · rw [eC, if_neg c1, if_neg c2, if_pos rfl, if_pos z1]; exact a1
          · rw [eM h1 a3 a4, if_neg c1, if_neg c2, if_pos rfl, if_pos z1]; exact a2
        · rcases ix_cases z (show hn < 2 ^ 31 by omega) with ⟨v, hv, rfl⟩ | g0 | ⟨g0, g1⟩
          · obtain ⟨r, h1, h2, a1, a2, ⟨a3, a4⟩, a5, a6⟩ := go (Or.inr ⟨v, hv, rfl⟩)
            refine ⟨r, h1, h2, ?_, ?_, a5, a6⟩
            · rw [eC, if_neg c1, if_neg c2, if_pos rfl, if_neg z1, ((helpC hl rh).1 v hv).1]; exact a1
            · rw [eM h1 a3 a4, if_neg c1, if_neg c2, if_pos rfl, if_neg z1, if_neg (nI_n0 v (by omega)), if_pos (nI_lt hv (by omega))]; exact a2
          · have nn : ¬ ∃ v, v < hn ∧ z = nI v := fun ⟨v, hv, q⟩ => by rw [q] at g0; exact nI_n0 v (by omega) g0
            rw [eC, if_neg c1, if_neg c2, if_pos rfl, if_neg z1, ((helpC hl rh).2 z nn).1]
            refine ⟨-101, h, h, rfl, ?_, rh, Fr.rfl'⟩
            rw [eM h hl rh.2.2.1, if_neg c1, if_neg c2, if_pos rfl, if_neg z1, if_pos g0]
          · have nn : ¬ ∃ v, v < hn ∧ z = nI v := fun ⟨v, hv, q⟩ => by rw [q] at g1; exact g1 (nI_lt hv (by omega))
            rw [eC, if_neg c1, if_neg c2, if_pos rfl, if_neg z1, ((helpC hl rh).2 z nn).1]
            refine ⟨-101, h, h, rfl, ?_, rh, Fr.rfl'⟩
            rw [eM h hl rh.2.2.1, if_neg c1, if_neg c2, if_pos rfl, if_neg z1, if_neg g0, if_neg g1]
      · have w4' : ¬ nI w = nI 4 := fun q => w4 (nI_inj (by omega) (by decide) q)
        obtain ⟨mb1, mb2⟩ := M_bounds (show w < 4 by omega)
        by_cases b1 : z < tLT w
        · refine ⟨-102, h, h, ?_, ?_, rh, Fr.rfl'⟩
          · rw [eC, if_neg c1, if_neg c2, if_neg w4', tLT_at hl (by omega), Option.bind_some, if_pos b1]
          · rw [eM h hl rh.2.2.1, if_neg c1, if_neg c2, if_neg w4', mb1, mb2, Option.bind_some, Option.bind_some, if_pos b1]
        · by_cases b2 : tGT w < z
          · refine ⟨-102, h, h, ?_, ?_, rh, Fr.rfl'⟩
            · rw [eC, if_neg c1, if_neg c2, if_neg w4', tLT_at hl (by omega), Option.bind_some, if_neg b1, tGT_at hl (by omega), Option.bind_some, if_pos b2]
            · rw [eM h hl rh.2.2.1, if_neg c1, if_neg c2, if_neg w4', mb1, mb2, Option.bind_some, Option.bind_some, if_neg b1, if_pos b2]
          · have hv : okV hn w z := by
              rcases (show w = 0 ∨ w = 1 ∨ w = 2 ∨ w = 3 by omega) with rfl | rfl | rfl | rfl
              · obtain ⟨n, -, n2, n3⟩ := rng_nI z (lo := 0) (hi := 50) (by decide) b1 b2 (by decide); exact ⟨n, n2, n3⟩
              · obtain ⟨n, -, n2, n3⟩ := rng_nI z (lo := 0) (hi := 9) (by decide) b1 b2 (by decide); exact ⟨n, n2, n3⟩
              · obtain ⟨n, n1, n2, n3⟩ := rng_nI z (lo := 1) (hi := 3) (by decide) b1 b2 (by decide); exact ⟨n, n1, n2, n3⟩
              · obtain ⟨n, -, n2, n3⟩ := rng_nI z (lo := 0) (hi := 3) (by decide) b1 b2 (by decide); exact ⟨n, n2, n3⟩
            obtain ⟨r, h1, h2, a1, a2, ⟨a3, a4⟩, a5, a6⟩ := go hv
            refine ⟨r, h1, h2, ?_, ?_, a5, a6⟩
            · rw [eC, if_neg c1, if_neg c2, if_neg w4', tLT_at hl (by omega), Option.bind_some, if_neg b1, tGT_at hl (by omega), Option.bind_some, if_neg b2]; exact a1
            · rw [eM h1 a3 a4, if_neg c1, if_neg c2, if_neg w4', mb1, mb2, Option.bind_some, Option.bind_some, if_neg b1, if_neg b2]; exact a2
    · refine ⟨-101, h, h, ?_, ?_, rh, Fr.rfl'⟩
      · rw [eC, if_pos h0]
      · rw [eM h hl rh.2.2.1, if_pos h0]
    · refine ⟨-101, h, h, ?_, ?_, rh, Fr.rfl'⟩
      · rw [eC, if_neg h0, if_pos h1]
      · rw [eM h hl rh.2.2.1, if_neg h0, if_pos h1]
  · obtain ⟨e1, e2⟩ := (helpC hl rh).2 x hx
    refine ⟨-101, h, h, ?_, ?_, rh, Fr.rfl'⟩
    · simp [f_C_set, gR_n (kk4 hl), LR hl, cv_n (c := 8) (kk107 hl), e1, onl]
    · simp [f_M_set, cv_n (kk201 hl), e2]
end SE
