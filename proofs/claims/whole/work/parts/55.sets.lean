/-! CALLS THAT SET A FEW PLACES -/
section ST
variable {h : AH}
theorem Lay.uI {a k : Nat} {v : Int32} (hl : Lay h) (h4 : 4 ≤ a) : Lay (uI h a k v) := (LayU.1 h a k v h4).mpr hl
theorem Lay.uJ {a k : Nat} {v : Int64} (hl : Lay h) (h4 : 4 ≤ a) : Lay (uJ h a k v) := (LayU.2.1 h a k v h4).mpr hl
theorem hI_ne {a k b j : Nat} {v : Int32} (hn : ¬ (b = a ∧ j = k)) : hI (uI h a k v) b j = hI h b j := if_neg hn
theorem hI_eq {a k : Nat} {v : Int32} : hI (uI h a k v) a k = v := if_pos ⟨rfl, rfl⟩
theorem o_blank {pn : Nat} {pg : Nat → Nat} (hl : Lay h) (rp : RPage h pn pg) : ∃ r h1 h2, f_C_blank h 4 = some (r, h1) ∧ f_M_blank h1 201 = some (r, h2) ∧ RPage h2 0 pg ∧ Fr (fun a k => (a = 5 ∧ k = 1) ∨ (a = 201 ∧ k = 0)) h h2 := by
  refine ⟨nI pn, uI h 5 1 0, uI (uI h 5 1 0) 201 0 0, ?_, ?_, ⟨by omega, ?_, hI_eq, fun i hi => absurd hi (by omega)⟩, (Fr.uI (Or.inl ⟨rfl, rfl⟩)).trans (Fr.uI (Or.inr ⟨rfl, rfl⟩))⟩
  · simp [f_C_blank, gR, gI, pI, LK hl, LR hl, rp.2.1]
  · simp only [f_M_blank, gI_n (kk201 (hl.uI (show 4 ≤ 5 by decide))), pI_n (kk201 (hl.uI (show 4 ≤ 5 by decide))), Option.bind_some]
    rw [hI_ne (by decide), rp.2.2.1]
  · rw [hI_ne (by decide), hI_eq]; rfl
theorem isFact_C (x : Int32) : f_C_isFact h x = some (if x < 0 then 0 else if x < nI 12 then 1 else 0) := by
  simp only [f_C_isFact, show (12 : Int32) = nI 12 from rfl]
  by_cases q : x < 0
  · simp [q]
  · by_cases q2 : x < nI 12 <;> simp [q, q2]
theorem o_level (hl : Lay h) (rl : RLev h) (x y : Int32) : ∃ r h1 h2, f_C_level h 4 x y = some (r, h1) ∧ f_M_level h1 201 x y = some (r, h2) ∧ RLev h2 ∧ Fr (fun a _ => a = 109 ∨ a = 210) h h2 := by
  have eC : f_C_level h 4 x y = if x < 0 then some (-101, h) else if x < nI 12 then (if y < 0 then some (-102, h) else if y < nI 4 then (rI 1 h 109 x).bind fun r => (wI h 109 x y).bind fun h1 => some (r, h1) else some (-102, h)) else some (-101, h) := by
    have e3 : ((3 : Int32) < y) ↔ ¬ y < nI 4 := by
      rw [Int32.lt_iff_toInt_lt, Int32.lt_iff_toInt_lt, nI_toInt (by decide)]
      have : (3 : Int32).toInt = 3 := rfl
      omega
    simp only [f_C_level, isFact_C, Option.bind_some, gR_n (kk4 hl), LR hl, gR_n (c := 8) (kk107 hl), e3]
    by_cases q : x < 0
    · simp [q]
    · by_cases q2 : x < nI 12
      · by_cases q3 : y < 0
        · simp [q, q2, q3]
        · by_cases q4 : y < nI 4 <;> simp [q, q2, q3, q4]
      · simp [q, q2]
  have eM : ∀ g, Lay g → f_M_level g 201 x y = if x < 0 then some (-101, g) else if x < nI 12 then (if y < 0 then some (-102, g) else if y < nI 4 then (rI 1 g 210 x).bind fun r => (wI g 210 x y).bind fun h1 => some (r, h1) else some (-102, g)) else some (-101, g) := by
    intro g hg
    simp only [f_M_level, show (11 : Int32) = nI 11 from rfl, show (3 : Int32) = nI 3 from rfl, in_Mk g x (show 11 < 2 ^ 30 by decide), in_Mk g y (show 3 < 2 ^ 30 by decide), Option.bind_some, gR_n (kk201 hg), LR hg]
    by_cases q : x < 0
    · simp [q]
    · by_cases q2 : x < nI 12
      · by_cases q3 : y < 0
        · simp [q, q2, q3]
        · by_cases q4 : y < nI 4 <;> simp [q, q2, q3, q4]
      · simp [q, q2]
  rcases ix_cases x (show 12 < 2 ^ 31 by decide) with ⟨f, hf, rfl⟩ | h0 | ⟨h0, h1⟩
  · rcases ix_cases y (show 4 < 2 ^ 31 by decide) with ⟨v, hv, rfl⟩ | g0 | ⟨g0, g1⟩
    · have hl1 : Lay (uI h 109 f (nI v)) := hl.uI (by decide)
      refine ⟨hI h 109 f, uI h 109 f (nI v), uI (uI h 109 f (nI v)) 210 f (nI v), ?_, ?_, fun i hi => ?_, (Fr.uI (Or.inl rfl)).trans (Fr.uI (Or.inr rfl))⟩
      · rw [eC, if_neg (nI_n0 f (by omega)), if_pos (nI_lt hf (by decide)), if_neg (nI_n0 v (by omega)), if_pos (nI_lt hv (by decide)), rI_n (kk109 hl) hf (by decide), wI_n (by decide) (kk109 hl) hf (by decide)]; rfl
      · rw [eM _ hl1, if_neg (nI_n0 f (by omega)), if_pos (nI_lt hf (by decide)), if_neg (nI_n0 v (by omega)), if_pos (nI_lt hv (by decide)), rI_n (kk210 hl1) hf (by decide), wI_n (by decide) (kk210 hl1) hf (by decide), hI_ne (by simp), (rl f hf).1]; rfl
      · by_cases e : i = f
        · subst e
          rw [hI_ne (by simp), hI_eq, hI_eq]
          exact ⟨rfl, v, by omega, rfl⟩
        · rw [hI_ne (by simp), hI_ne (by simp [e]), hI_ne (by simp [e]), hI_ne (by simp)]
          exact rl i hi
    · refine ⟨-102, h, h, ?_, ?_, rl, Fr.rfl'⟩
      · rw [eC, if_neg (nI_n0 f (by omega)), if_pos (nI_lt hf (by decide)), if_pos g0]
      · rw [eM _ hl, if_neg (nI_n0 f (by omega)), if_pos (nI_lt hf (by decide)), if_pos g0]
    · refine ⟨-102, h, h, ?_, ?_, rl, Fr.rfl'⟩
      · rw [eC, if_neg (nI_n0 f (by omega)), if_pos (nI_lt hf (by decide)), if_neg g0, if_neg g1]
      · rw [eM _ hl, if_neg (nI_n0 f (by omega)), if_pos (nI_lt hf (by decide)), if_neg g0, if_neg g1]
  · exact ⟨-101, h, h, by rw [eC, if_pos h0], by rw [eM _ hl, if_pos h0], rl, Fr.rfl'⟩
  · exact ⟨-101, h, h, by rw [eC, if_neg h0, if_neg h1], by rw [eM _ hl, if_neg h0, if_neg h1], rl, Fr.rfl'⟩
theorem o_empty {hn rn : Nat} (hl : Lay h) (rr : RRow h hn rn) : ∃ r h1 h2, f_C_empty h 4 = some (r, h1) ∧ f_M_empty h1 201 = some (r, h2) ∧ RRow h2 hn 0 ∧ Fr (fun a k => (a = 107 ∧ k = 4) ∨ (a = 201 ∧ k = 15)) h h2 := by
  refine ⟨nI rn, uI h 107 4 0, uI (uI h 107 4 0) 201 15 0, ?_, ?_, ⟨by omega, ?_, hI_eq, fun i hi => absurd hi (by omega)⟩, (Fr.uI (Or.inl ⟨rfl, rfl⟩)).trans (Fr.uI (Or.inr ⟨rfl, rfl⟩))⟩
  · simp [f_C_empty, gR, gI, pI, LK hl, LR hl, rr.2.1]
  · simp only [f_M_empty, gI_n (kk201 (hl.uI (show 4 ≤ 107 by decide))), pI_n (kk201 (hl.uI (show 4 ≤ 107 by decide))), Option.bind_some]
    rw [hI_ne (by decide), rr.2.2.1]
  · rw [hI_ne (by decide), hI_eq]; rfl
theorem o_strike {hn ev : Nat} (hl : Lay h) (rl : RLog h hn ev) : ∃ r h1 h2, f_C_strike h 4 = some (r, h1) ∧ f_M_strike h1 201 = some (r, h2) ∧ (∃ ev', RLog h2 hn ev') ∧ Fr (fun a k => (a = 135 ∧ k = 1) ∨ (a = 201 ∧ k = 18)) h h2 := by
  obtain ⟨r1, r2, r3, r4, r5, r6⟩ := id rl
  by_cases h0 : ev = 0
  · subst h0
    refine ⟨-103, h, h, ?_, ?_, ⟨0, rl⟩, Fr.rfl'⟩
    · simp [f_C_strike, gR, gI, LK hl, LR hl, r2, show nI 0 = 0 from rfl]
    · simp [f_M_strike, gI_n (kk201 hl), r3, show nI 0 = 0 from rfl]
  · obtain ⟨n, rfl⟩ : ∃ n, ev = n + 1 := ⟨ev - 1, by omega⟩
    have hz : ¬ nI (n + 1) = 0 := nI_ne0 (by omega) (by omega)
    have hp : nI (n + 1) - 1 = nI n := nI_pred n
    have hl1 : Lay (uI h 135 1 (nI n)) := hl.uI (by decide)
    refine ⟨nI n, uI h 135 1 (nI n), uI (uI h 135 1 (nI n)) 201 18 (nI n), ?_, ?_, ⟨n, by omega, ?_, hI_eq, ?_, fun e he => ?_, fun t ht w hw => ?_⟩, (Fr.uI (Or.inl ⟨rfl, rfl⟩)).trans (Fr.uI (Or.inr ⟨rfl, rfl⟩))⟩
    · simp [f_C_strike, gR_n (kk4 hl), gR_n (kk4 hl1), LR hl, LR hl1, gI_n (c := 6) (kk135 hl), gI_n (c := 6) (kk135 hl1), pI_n (c := 6) (kk135 hl), r2, hz, hp, hI_eq]
    · have e : hI (uI h 135 1 (nI n)) 201 18 = nI (n + 1) := by rw [hI_ne (by decide)]; exact r3
      simp [f_M_strike, gI_n (kk201 hl1), pI_n (kk201 hl1), gI_n (kk201 (hl1.uI (show 4 ≤ 201 by decide))), e, hz, hp, hI_eq]
    · rw [hI_ne (by decide), hI_eq]
    · rw [hI_ne (by decide), hI_ne (by decide)]; exact r4
    · rw [hI_ne (by simp), hI_ne (by simp), hI_ne (by simp), hI_ne (by simp)]; exact r5 e (by omega)
    · have ew : wld (uI (uI h 135 1 (nI n)) 201 18 (nI n)) t w = wld h t w := by
        have : ∀ t, wld (uI (uI h 135 1 (nI n)) 201 18 (nI n)) t = wld h t := by
          intro t
          induction t with
          | zero => funext w; show decide (hI _ 201 17 = nI w) = decide (hI h 201 17 = nI w); rw [hI_ne (by decide), hI_ne (by decide)]
          | succ t ih =>
            show stepW _ t (wld _ t) = stepW h t (wld h t)
            rw [ih]
            unfold stepW ofN
            simp only [hI_ne (show ¬ (213 = 201 ∧ t = 18) by omega), hI_ne (show ¬ (213 = 135 ∧ t = 1) by omega), hI_ne (show ¬ (212 = 201 ∧ t = 18) by omega), hI_ne (show ¬ (212 = 135 ∧ t = 1) by omega), HS]
            simp
        rw [this]
      rw [ew]
      exact r6 t (by omega) w hw
theorem o_put {hn rn : Nat} {ha : Nat → Nat} (hl : Lay h) (rh : RHelp h hn ha) (rr : RRow h hn rn) (x : Int32) : ∃ r h1 h2, f_C_put h 4 x = some (r, h1) ∧ f_M_put h1 201 x = some (r, h2) ∧ (∃ rn', RRow h2 hn rn') ∧ Fr (fun a k => (a = 107 ∧ k = 4) ∨ (a = 201 ∧ k = 15) ∨ a = 110 ∨ a = 211) h h2 := by
  obtain ⟨r1, r2, r3, r4⟩ := id rr
  by_cases hx : ∃ s, s < hn ∧ x = nI s
  · obtain ⟨s, hs, rfl⟩ := hx
    have h8 := rh.1
    have tC := ((helpC hl rh).1 s hs).1
    by_cases hf : rn = 5
    · subst hf
      refine ⟨-104, h, h, ?_, ?_, ⟨5, rr⟩, Fr.rfl'⟩
      · simp [f_C_put, gR_n (kk4 hl), LR hl, cv_n (c := 8) (kk107 hl), tC, onl, gI_n (c := 8) (kk107 hl), r2, show ¬ nI 5 < 5 by decide]
      · simp [f_M_put, cv_n (kk201 hl), ((helpC hl rh).1 s hs).2, gI_n (kk201 hl), r3, show nI 5 = 5 from rfl]
    · have hl1 : Lay (uI h 110 rn (nI s)) := hl.uI (by decide)
      have hl2 : Lay (uI (uI h 110 rn (nI s)) 107 4 (nI (rn + 1))) := hl1.uI (by decide)
      have hl3 : Lay (uI (uI (uI h 110 rn (nI s)) 107 4 (nI (rn + 1))) 211 rn (nI s)) := hl2.uI (by decide)
      have q5 : nI rn < 5 := nI_lt (b := 5) (by omega) (by decide)
      have q6 : ¬ nI rn = 5 := fun q => hf (nI_inj (b := 5) (by omega) (by decide) q)
      have ea : hI (uI h 110 rn (nI s)) 107 4 = nI rn := by rw [hI_ne (by simp)]; exact r2
      have eh : (f_M_isHelper (uI (uI h 110 rn (nI s)) 107 4 (nI (rn + 1))) 201 (nI s)) = some 1 := by
        have e9 : hI (uI (uI h 110 rn (nI s)) 107 4 (nI (rn + 1))) 201 9 = nI hn := by rw [hI_ne (by decide), hI_ne (by simp)]; exact rh.2.2.1
        simp only [f_M_isHelper, gI_n (kk201 hl2), e9, Option.bind_some, in_M0 _ (nI s) (show hn < 2 ^ 30 by omega), nI_n0 s (by omega), nI_lt hs (by omega), if_true, if_false]
        simp
      have eb : hI (uI (uI h 110 rn (nI s)) 107 4 (nI (rn + 1))) 201 15 = nI rn := by rw [hI_ne (by decide), hI_ne (by simp)]; exact r3
      have ec : hI (uI (uI (uI h 110 rn (nI s)) 107 4 (nI (rn + 1))) 211 rn (nI s)) 201 15 = nI rn := by rw [hI_ne (by simp)]; exact eb
      refine ⟨nI (rn + 1), uI (uI h 110 rn (nI s)) 107 4 (nI (rn + 1)), uI (uI (uI (uI h 110 rn (nI s)) 107 4 (nI (rn + 1))) 211 rn (nI s)) 201 15 (nI (rn + 1)), ?_, ?_, ⟨rn + 1, by omega, ?_, hI_eq, fun i hi => ?_⟩, ?_⟩
      · simp [f_C_put, gR_n (kk4 hl), gR_n (kk4 hl1), gR_n (kk4 hl2), LR hl, LR hl1, LR hl2, cv_n (c := 8) (kk107 hl), tC, onl, gI_n (c := 8) (kk107 hl), gI_n (c := 8) (kk107 hl1), gI_n (c := 8) (kk107 hl2), gR_n (c := 8) (kk107 hl), pI_n (c := 8) (kk107 hl1), r2, q5, wI_n (show 4 ≤ 110 by decide) (kk110 hl) (show rn < 5 by omega) (by decide), ea, nI_1, hI_eq]
      · simp [f_M_put, cv_n (kk201 hl2), eh, gI_n (kk201 hl2), gI_n (kk201 hl3), gI_n (kk201 (hl3.uI (show 4 ≤ 201 by decide))), gR_n (kk201 hl2), LR hl2, pI_n (kk201 hl3), eb, ec, q6, wI_n (show 4 ≤ 211 by decide) (kk211 hl2) (show rn < 5 by omega) (by decide), nI_1, hI_eq]
      · rw [hI_ne (by decide), hI_ne (by simp), hI_eq]
      · by_cases e : i = rn
        · subst e
          rw [hI_ne (by simp), hI_ne (by simp), hI_ne (by simp), hI_eq, hI_ne (by simp), hI_eq]
          exact ⟨rfl, s, hs, rfl⟩
        · rw [hI_ne (by simp), hI_ne (by simp), hI_ne (by simp), hI_ne (by simp [e]), hI_ne (by simp), hI_ne (by simp [e]), hI_ne (by simp), hI_ne (by simp)]
          exact r4 i (by omega)
      · exact (((Fr.uI (by simp)).trans (Fr.uI (by simp))).trans (Fr.uI (by simp))).trans (Fr.uI (by simp))
  · obtain ⟨e1, e2⟩ := (helpC hl rh).2 x hx
    refine ⟨-101, h, h, ?_, ?_, ⟨rn, rr⟩, Fr.rfl'⟩
    · simp [f_C_put, gR_n (kk4 hl), LR hl, cv_n (c := 8) (kk107 hl), e1, onl]
    · simp [f_M_put, cv_n (kk201 hl), e2]
end ST
