/-! CALLS THAT ONLY READ, the short ones -/
section RD
variable {h : AH}
theorem o_at {hn rn : Nat} (hl : Lay h) (rr : RRow h hn rn) (x : Int32) : ∃ r, f_C_at h 4 x = some r ∧ f_M_at h 201 x = some r := by
  obtain ⟨r1, r2, r3, r4⟩ := rr
  have e1 : f_C_at h 4 x = if x < 0 then some (-1) else if x < nI rn then rI 1 h 110 x else some (-1) := by
    simp [f_C_at, gR, gI, LK hl, LR hl, r2]
  have e2 : f_M_at h 201 x = if x < 0 then some (-1) else if x < nI rn then rI 1 h 211 x else some (-1) := by
    simp only [f_M_at, gI_n (kk201 hl), gR_n (kk201 hl), LR hl, r3, Option.bind_some, in_M0 h x (show rn < 2 ^ 30 by omega)]
    by_cases h0 : x < 0
    · simp [h0]
    · by_cases h1 : x < nI rn <;> simp [h0, h1]
  rw [e1, e2]
  rcases ix_cases x (show rn < 2 ^ 31 by omega) with ⟨j, hj, rfl⟩ | h0 | ⟨h0, h1⟩
  · rw [if_neg (nI_n0 j (by omega)), if_neg (nI_n0 j (by omega)), if_pos (nI_lt hj (by omega)), if_pos (nI_lt hj (by omega)), rI_n (kk110 hl) (by omega) (by decide), rI_n (kk211 hl) (by omega) (by decide), (r4 j hj).1]
    exact ⟨_, rfl, rfl⟩
  · rw [if_pos h0, if_pos h0]; exact ⟨_, rfl, rfl⟩
  · rw [if_neg h0, if_neg h1, if_neg h0, if_neg h1]; exact ⟨_, rfl, rfl⟩
theorem o_walked (hl : Lay h) (rj : RJoin h) : ∃ r, f_C_walked h 4 = some r ∧ f_M_walked h 201 = some r := by
  refine ⟨hI h 92 3, by simp [f_C_walked, gR, gI, LK hl, LR hl], ?_⟩
  rw [rj.1]
  simp [f_M_walked, gI_n (kk201 hl)]
theorem o_trace (hl : Lay h) (rj : RJoin h) (x : Int32) : ∃ r, f_C_trace h 4 x = some r ∧ f_M_trace h 201 x = some r := by
  obtain ⟨-, n, r1, r2, r3, r4⟩ := rj
  have e1 : f_C_trace h 4 x = if x < 0 then some (-1) else if x < nI n then rI 1 h 97 x else some (-1) := by
    simp [f_C_trace, f_Wa_stepToFault, cv, gR, gI, LK hl, LR hl, r2]
  have e2 : f_M_trace h 201 x = if x < 0 then some (-1) else if x < nI n then rI 1 h 224 x else some (-1) := by
    simp only [f_M_trace, gI_n (kk201 hl), gR_n (kk201 hl), LR hl, r3, Option.bind_some, in_M0 h x (show n < 2 ^ 30 by omega)]
    by_cases h0 : x < 0
    · simp [h0]
    · by_cases h1 : x < nI n <;> simp [h0, h1]
  rw [e1, e2]
  rcases ix_cases x (show n < 2 ^ 31 by omega) with ⟨j, hj, rfl⟩ | h0 | ⟨h0, h1⟩
  · rw [if_neg (nI_n0 j (by omega)), if_neg (nI_n0 j (by omega)), if_pos (nI_lt hj (by omega)), if_pos (nI_lt hj (by omega)), rI_n (kk97 hl) (by omega) (by decide), rI_n (kk224 hl) (by omega) (by decide), r4 j hj]
    exact ⟨_, rfl, rfl⟩
  · rw [if_pos h0, if_pos h0]; exact ⟨_, rfl, rfl⟩
  · rw [if_neg h0, if_neg h1, if_neg h0, if_neg h1]; exact ⟨_, rfl, rfl⟩
theorem o_count {tn pn hn rn ev : Nat} {ta ts pg ha : Nat → Nat} (hl : Lay h) (rt : RTalks h tn ta ts) (rp : RPage h pn pg) (rh : RHelp h hn ha) (rl : RLog h hn ev) (rc : RCnt h) (rr : RRow h hn rn) (x : Int32) : ∃ r, f_C_count h 4 x = some r ∧ f_M_count h 201 x = some r := by
  obtain ⟨⟨q1, -, a1, a2⟩, ⟨q2, -, b1, b2⟩, ⟨q3, -, c1, c2⟩⟩ := rc
  have e1 : f_C_count h 4 x = some (if x = 0 then nI tn else if x = 1 then nI pn else if x = 2 then nI hn else if x = 3 then nI ev else if x = 4 then nI q1 else if x = 5 then nI q2 else if x = 6 then nI q3 else if x = 7 then nI rn else -102) := by
    simp [f_C_count, gR, gI, LK hl, LR hl, rt.2.1, rp.2.1, rh.2.1, rl.2.1, a1, b1, c1, rr.2.1]
    repeat (first | rfl | split)
  have e2 : f_M_count h 201 x = some (if x = 0 then nI tn else if x = 1 then nI pn else if x = 2 then nI hn else if x = 3 then nI ev else if x = 4 then nI q1 else if x = 5 then nI q2 else if x = 6 then nI q3 else if x = 7 then nI rn else -102) := by
    simp [f_M_count, gI_n (kk201 hl), rt.2.2.1, rp.2.2.1, rh.2.2.1, rl.2.2.1, a2, b2, c2, rr.2.2.1]
    repeat (first | rfl | split)
  exact ⟨_, e1, e2⟩
/-- which talk a number names -/
theorem talkC {tn : Nat} {ta ts : Nat → Nat} (hl : Lay h) (rt : RTalks h tn ta ts) : (∀ t, t < tn → f_C_talkNumbered h 4 (nI t) = some (some (ta t)) ∧ f_M_isTalk h 201 (nI t) = some 1) ∧ ∀ x : Int32, (¬ ∃ t, t < tn ∧ x = nI t) → f_C_talkNumbered h 4 x = some none ∧ f_M_isTalk h 201 x = some 0 := by
  obtain ⟨r1, r2, r3, r4⟩ := rt
  have e1 : ∀ x, f_C_talkNumbered h 4 x = if x < 0 then some none else if x < nI tn then rR 9 h 91 x else some none := fun x => by
    simp [f_C_talkNumbered, gR, gI, LK hl, LR hl, r2]
  have e2 : ∀ x, f_M_isTalk h 201 x = some (if x < 0 then 0 else if x < nI tn then 1 else 0) := fun x => by
    simp only [f_M_isTalk, gI_n (kk201 hl), r3, Option.bind_some, in_M0 h x (show tn < 2 ^ 30 by omega)]
    by_cases h0 : x < 0
    · simp [h0]
    · by_cases h1 : x < nI tn <;> simp [h0, h1]
  refine ⟨fun t ht => ?_, fun x hx => ?_⟩
  · rw [e1, e2, if_neg (nI_n0 t (by omega)), if_neg (nI_n0 t (by omega)), if_pos (nI_lt ht (by omega)), if_pos (nI_lt ht (by omega)), rR_n (c := 9) (kk91 hl) (by omega) (by decide), (r4 t ht).1]
    exact ⟨rfl, rfl⟩
  · rw [e1, e2]
    rcases ix_cases x (show tn < 2 ^ 31 by omega) with h1 | h0 | ⟨h0, h1⟩
    · exact absurd h1 hx
    · rw [if_pos h0, if_pos h0]; exact ⟨rfl, rfl⟩
    · rw [if_neg h0, if_neg h1, if_neg h0, if_neg h1]; exact ⟨rfl, rfl⟩
theorem helpC {hn : Nat} {ha : Nat → Nat} (hl : Lay h) (rh : RHelp h hn ha) : (∀ s, s < hn → f_Ro_helperNumbered h 107 (nI s) = some (some (ha s)) ∧ f_M_isHelper h 201 (nI s) = some 1) ∧ ∀ x : Int32, (¬ ∃ s, s < hn ∧ x = nI s) → f_Ro_helperNumbered h 107 x = some none ∧ f_M_isHelper h 201 x = some 0 := by
  obtain ⟨r1, r2, r3, r4⟩ := rh
  have e1 : ∀ x, f_Ro_helperNumbered h 107 x = if x < 0 then some none else if x < nI hn then rR 4 h 108 x else some none := fun x => by
    simp [f_Ro_helperNumbered, gR, gI, LK hl, LR hl, r2]
  have e2 : ∀ x, f_M_isHelper h 201 x = some (if x < 0 then 0 else if x < nI hn then 1 else 0) := fun x => by
    simp only [f_M_isHelper, gI_n (kk201 hl), r3, Option.bind_some, in_M0 h x (show hn < 2 ^ 30 by omega)]
    by_cases h0 : x < 0
    · simp [h0]
    · by_cases h1 : x < nI hn <;> simp [h0, h1]
  refine ⟨fun t ht => ?_, fun x hx => ?_⟩
  · rw [e1, e2, if_neg (nI_n0 t (by omega)), if_neg (nI_n0 t (by omega)), if_pos (nI_lt ht (by omega)), if_pos (nI_lt ht (by omega)), rR_n (c := 4) (kk108 hl) (by omega) (by decide), (r4 t ht).1]
    exact ⟨rfl, rfl⟩
  · rw [e1, e2]
    rcases ix_cases x (show hn < 2 ^ 31 by omega) with h1 | h0 | ⟨h0, h1⟩
    · exact absurd h1 hx
    · rw [if_pos h0, if_pos h0]; exact ⟨rfl, rfl⟩
    · rw [if_neg h0, if_neg h1, if_neg h0, if_neg h1]; exact ⟨rfl, rfl⟩
theorem o_steps {tn : Nat} {ta ts : Nat → Nat} (hl : Lay h) (rt : RTalks h tn ta ts) (x : Int32) : ∃ r, f_C_steps h 4 x = some r ∧ f_M_steps h 201 x = some r := by
  obtain ⟨t1, t2⟩ := talkC hl rt
  simp only [f_C_steps, f_M_steps, cv_n (kk4 hl), cv_n (kk201 hl)]
  by_cases hx : ∃ t, t < tn ∧ x = nI t
  · obtain ⟨t, ht, rfl⟩ := hx
    obtain ⟨-, T⟩ := rt.2.2.2 t ht
    have h6 := rt.1
    rw [(t1 t ht).1, (t1 t ht).2]
    refine ⟨nI (ts t), ?_, ?_⟩
    · simp [onl, gI_n (c := 9) T.2.2.2.1.1, T.2.2.2.2.2.1]
    · have : rI 1 h 203 (nI t) = some (nI (ts t)) := by rw [rI_n (kk203 hl) (by omega) (by decide), T.2.2.2.2.2.2.1]
      simp [gR_n (kk201 hl), LR hl, this]
  · rw [(t2 x hx).1, (t2 x hx).2]
    exact ⟨-101, by simp [onl], by simp⟩
theorem o_about {hn : Nat} {ha : Nat → Nat} (hl : Lay h) (rh : RHelp h hn ha) (x y : Int32) : ∃ r, f_C_about h 4 x y = some r ∧ f_M_about h 201 x y = some r := by
  obtain ⟨t1, t2⟩ := helpC hl rh
  simp only [f_C_about, f_M_about, cv_n (kk201 hl), gR_n (kk4 hl), LR hl, Option.bind_some, cv_n (c := 8) (kk107 hl)]
  by_cases hx : ∃ s, s < hn ∧ x = nI s
  · obtain ⟨s, hs, rfl⟩ := hx
    obtain ⟨-, g1, g2, g3, g4, g5, g6, g7, g8, g9, -⟩ := rh.2.2.2 s hs
    have h8 := rh.1
    rw [(t1 s hs).1, (t1 s hs).2]
    simp only [Option.bind_some, onl, show (7 : Int32) = nI 7 from rfl, in_Mk h y (show 7 < 2 ^ 30 by decide), show (8 : Int32) = nI (7 + 1) from rfl, show ¬ ((1 : Int32) = 0) by decide, if_false]
    rcases ix_cases y (show 7 + 1 < 2 ^ 31 by decide) with ⟨j, hj, rfl⟩ | h0 | ⟨h0, h1⟩
    · rw [if_neg (nI_n0 j (by omega)), if_pos (nI_lt hj (by decide)), if_neg (nI_n0 j (by omega)), if_pos (nI_lt hj (by decide))]
      simp only [gR_n (c := 4) g3, g5, Option.bind_some, rI_n g4 hj (by decide), show ¬ ((1 : Int32) = 0) by decide, if_false, f_M_aboutOf]
      refine ⟨_, rfl, ?_⟩
      simp only [gR_n (kk201 hl), LR hl, Option.bind_some]
      by_cases h5 : j < 5
      · rw [show (5 : Int32) = nI 5 from rfl, if_pos (nI_lt h5 (by decide)), pk_mul, nI_add, rI_n (kk209 hl) (by omega) (by decide), g6 j h5]; rfl
      · rw [show (5 : Int32) = nI 5 from rfl, if_neg (nI_nlt (by omega) (by omega))]
        rcases (show j = 5 ∨ j = 6 ∨ j = 7 by omega) with rfl | rfl | rfl
        · rw [if_pos rfl, rI_n (kk206 hl) (by omega) (by decide), g7]; rfl
        · rw [if_neg (by decide), if_pos (show nI 6 = 6 from rfl), rI_n (kk207 hl) (by omega) (by decide), g8]; rfl
        · rw [if_neg (by decide), if_neg (by decide), rI_n (kk208 hl) (by omega) (by decide), g9]; rfl
    · rw [if_pos h0, if_pos h0]; exact ⟨_, rfl, by simp⟩
    · rw [if_neg h0, if_neg h1, if_neg h0, if_neg h1]; exact ⟨_, rfl, by simp⟩
  · rw [(t2 x hx).1, (t2 x hx).2]
    exact ⟨-101, by simp [onl], by simp⟩
/-- whether a state is one of a talk -/
theorem stateC {tn : Nat} {ta ts : Nat → Nat} (hl : Lay h) (rt : RTalks h tn ta ts) {t : Nat} (ht : t < tn) (y : Int32) : f_Ta_has h (ta t) y = some (if y < 0 then 0 else if y < nI (ts t + 1) then 1 else 0) ∧ f_M_isState h 201 (nI t) y = some (if y < 0 then 0 else if y < nI (ts t + 1) then 1 else 0) := by
  obtain ⟨t1, t2⟩ := talkC hl rt
  obtain ⟨-, T⟩ := rt.2.2.2 t ht
  have h6 := rt.1
  have h24 := T.1
  have e : (nI (ts t) < y) ↔ ¬ y < nI (ts t + 1) := by
    rw [Int32.lt_iff_toInt_lt, Int32.lt_iff_toInt_lt, nI_toInt (by omega), nI_toInt (by omega)]
    omega
  constructor
  · simp only [f_Ta_has, gI_n (c := 9) T.2.2.2.1.1, Option.bind_some, T.2.2.2.2.2.1]
    by_cases h0 : y < 0
    · simp [h0]
    · by_cases h1 : y < nI (ts t + 1)
      · simp [h0, h1, e]
      · simp [h0, h1, e]
  · have : rI 1 h 203 (nI t) = some (nI (ts t)) := by rw [rI_n (kk203 hl) (by omega) (by decide), T.2.2.2.2.2.2.1]
    simp only [f_M_isState, cv_n (kk201 hl), (t1 t ht).2, Option.bind_some, gR_n (kk201 hl), LR hl, this, in_Mk h y (show ts t < 2 ^ 30 by omega), show ¬ ((1 : Int32) = 0) by decide, if_false]
    by_cases h0 : y < 0
    · simp [h0]
    · by_cases h1 : y < nI (ts t + 1) <;> simp [h0, h1]
theorem o_next {tn : Nat} {ta ts : Nat → Nat} (hl : Lay h) (rt : RTalks h tn ta ts) (x y z w : Int32) : ∃ r, f_C_next h 4 x y z w = some r ∧ f_M_next h 201 x y z w = some r := by
  obtain ⟨t1, t2⟩ := talkC hl rt
  by_cases hx : ∃ t, t < tn ∧ x = nI t
  · obtain ⟨t, ht, rfl⟩ := hx
    obtain ⟨s1, s2⟩ := stateC hl rt ht y
    obtain ⟨-, T⟩ := rt.2.2.2 t ht
    have h6 := rt.1
    have h24 := T.1
    simp only [f_C_next, f_M_next, cv_n (kk4 hl), cv_n (kk201 hl), (t1 t ht).1, Option.bind_some, onl, cv_n (c := 9) T.2.2.2.1.1, s1, s2]
    rcases ix_cases y (show ts t + 1 < 2 ^ 31 by omega) with ⟨s, hs, rfl⟩ | h0 | ⟨h0, h1⟩
    · simp only [nI_n0 s (by omega), nI_lt hs (by omega), if_true, if_false, show ¬ ((1 : Int32) = 0) by decide]
      have es : f_C_isSign h z = some (if z = 0 ∨ z = 1 then 1 else 0) := by
        simp only [f_C_isSign]
        by_cases q : z = 0
        · simp [q]
        · by_cases q2 : z = 1 <;> simp [q, q2]
      have em : f_C_isMessage h w = some (if w < 0 then 0 else if w < nI 8 then 1 else 0) := by
        simp only [f_C_isMessage, show (8 : Int32) = nI 8 from rfl]
        by_cases q : w < 0
        · simp [q]
        · by_cases q2 : w < nI 8 <;> simp [q, q2]
      rw [es, em, show (1 : Int32) = nI 1 from rfl, in_Mk h z (show 1 < 2 ^ 30 by decide), show (7 : Int32) = nI 7 from rfl, in_Mk h w (show 7 < 2 ^ 30 by decide)]
      simp only [Option.bind_some]
      rcases ix_cases z (show 1 + 1 < 2 ^ 31 by decide) with ⟨g, hg, rfl⟩ | h0 | ⟨h0, h1⟩
      · have hz : nI g = 0 ∨ nI g = nI 1 := by
          rcases (show g = 0 ∨ g = 1 by omega) with rfl | rfl
          · exact Or.inl rfl
          · exact Or.inr rfl
        simp only [hz, nI_n0 g (by omega), nI_lt hg (by decide), if_true, if_false, show ¬ (nI 1 = 0) by decide]
        rcases ix_cases w (show 7 + 1 < 2 ^ 31 by decide) with ⟨m, hm, rfl⟩ | h0 | ⟨h0, h1⟩
        · simp only [nI_n0 m (by omega), nI_lt hm (by decide), if_true, if_false, show ¬ (nI 1 = 0) by decide, f_Ta_behind, f_M_place, gR_n (c := 9) T.2.2.2.1.1, T.2.2.2.2.1.1, gR_n (kk201 hl), LR hl, Option.bind_some]
          rw [show (16 : Int32) = nI 16 from rfl, show (8 : Int32) = nI 8 from rfl, show (400 : Int32) = nI 400 from rfl, pk_mul, pk_mul, pk_mul, pk_mul, pk_mul, nI_add, nI_add, nI_add, nI_add, nI_add, rI_n T.2.2.2.1.2.1 (by omega) (by omega), rI_n (kk204 hl) (by omega) (by decide)]
          have T8 := (T.2.2.2.2.2.2.2.1 s (by omega) (8 * g + m) (by omega)).1
          refine ⟨_, rfl, ?_⟩
          rw [show s * 16 + g * 8 + m = 16 * s + (8 * g + m) by omega, T8]
          show some (hI h 204 _) = some (hI h 204 _)
          rw [show 400 * t + 16 * s + 8 * g + m = 400 * t + 16 * s + (8 * g + m) by omega]
        · simp [h0]
        · simp [h0, h1]
      · have hz : ¬ (z = 0 ∨ z = nI 1) := fun q => by
          rcases q with q | q
          · rw [q] at h0; exact absurd h0 (by decide)
          · rw [q] at h0; exact absurd h0 (by decide)
        simp [h0, hz]
      · have hz : ¬ (z = 0 ∨ z = nI 1) := fun q => by
          rcases q with q | q
          · rw [q] at h1; exact h1 (by decide)
          · rw [q] at h1; exact h1 (by decide)
        simp [h0, h1, hz]
    · simp [h0]
    · simp [h0, h1]
  · have e : f_M_isState h 201 x y = some 0 := by simp [f_M_isState, cv_n (kk201 hl), (t2 x hx).2]
    simp only [f_C_next, f_M_next, cv_n (kk4 hl), cv_n (kk201 hl), (t2 x hx).1, e]
    exact ⟨-101, by simp [onl], by simp⟩
theorem mayEnd_C {tn : Nat} {ta ts : Nat → Nat} (rt : RTalks h tn ta ts) {t s : Nat} (ht : t < tn) (hs : s ≤ ts t) : f_Ta_mayEnd h (ta t) (nI s) = some (en h t s) := by
  obtain ⟨-, T⟩ := rt.2.2.2 t ht
  have h24 := T.1
  have h1 := msk_lt (fun s => decide (en h t s = 1)) (ts t + 1)
  have h2 : 2 ^ (ts t + 1) ≤ 2 ^ 25 := Nat.pow_le_pow_right (by decide) (by omega)
  simp only [f_Ta_mayEnd, gI_n (c := 9) T.2.2.2.1.1, Option.bind_some, T.2.2.2.2.2.2.2.2.2.1]
  have hb := bit_0 (n := msk (fun s => decide (en h t s = 1)) (ts t + 1)) (i := s) (by omega) (by omega)
  rw [msk_bit] at hb
  rcases T.2.2.2.2.2.2.2.2.1 s hs with q | q
  · rw [if_pos (hb.mpr (by rw [q]; simp)), q]
  · rw [if_neg (fun z => by have := hb.mp z; rw [q] at this; simp at this; omega), q]
theorem o_ends {tn : Nat} {ta ts : Nat → Nat} (hl : Lay h) (rt : RTalks h tn ta ts) (x y : Int32) : ∃ r, f_C_ends h 4 x y = some r ∧ f_M_ends h 201 x y = some r := by
  obtain ⟨t1, t2⟩ := talkC hl rt
  by_cases hx : ∃ t, t < tn ∧ x = nI t
  · obtain ⟨t, ht, rfl⟩ := hx
    obtain ⟨s1, s2⟩ := stateC hl rt ht y
    obtain ⟨-, T⟩ := rt.2.2.2 t ht
    have h6 := rt.1
    have h24 := T.1
    simp only [f_C_ends, f_M_ends, cv_n (kk4 hl), cv_n (kk201 hl), (t1 t ht).1, Option.bind_some, onl, cv_n (c := 9) T.2.2.2.1.1, s1, s2]
    rcases ix_cases y (show ts t + 1 < 2 ^ 31 by omega) with ⟨s, hs, rfl⟩ | h0 | ⟨h0, h1⟩
    · simp only [nI_n0 s (by omega), nI_lt hs (by omega), if_true, if_false, show ¬ ((1 : Int32) = 0) by decide, mayEnd_C rt ht (show s ≤ ts t by omega), gR_n (kk201 hl), LR hl, Option.bind_some]
      rw [show (25 : Int32) = nI 25 from rfl, pk_mul, nI_add, rI_n (kk205 hl) (by omega) (by decide)]
      show ∃ r, (if en h t s = 0 then some 0 else some 1) = some r ∧ (if en h t s = 0 then some 0 else some 1) = some r
      by_cases q : en h t s = 0
      · rw [if_pos q]; exact ⟨_, rfl, rfl⟩
      · rw [if_neg q]; exact ⟨_, rfl, rfl⟩
    · simp [h0]
    · simp [h0, h1]
  · have e : f_M_isState h 201 x y = some 0 := by simp [f_M_isState, cv_n (kk201 hl), (t2 x hx).2]
    simp only [f_C_ends, f_M_ends, cv_n (kk4 hl), cv_n (kk201 hl), (t2 x hx).1, e]
    exact ⟨-101, by simp [onl], by simp⟩
end RD
