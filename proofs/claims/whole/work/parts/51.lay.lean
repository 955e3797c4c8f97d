/-! THE LAYOUT that both constructors leave, and what the program's small steps come to on it -/
def Lay (h : AH) : Prop := (∀ a, 4 ≤ a → a < 237 → hK h a = kTab.getD (a - 4) (0, 0)) ∧ (∀ q ∈ rTab, hR h q.1 q.2.1 = some q.2.2) ∧ (hK h 0 = (1, 4) ∧ hK h 1 = (1, 4) ∧ hK h 2 = (4, 6)) ∧ (∀ k, k < 4 → hI h 0 k = tLT k) ∧ (∀ k, k < 4 → hI h 1 k = tGT k) ∧ (∀ k, k < 6 → hJ h 2 k = tWF k) ∧ 237 ≤ hM h
theorem ob_split {o : Option AH} {f : AH → Option AH} {g : AH → Bool} (h : (o.bind f).map g = some true) : ∃ x y, o = some x ∧ f x = some y ∧ g y = true := by
  cases o with
  | none => cases h
  | some x =>
    have h : (f x).map g = some true := h
    cases e : f x with
    | none => rw [e] at h; cases h
    | some y => rw [e] at h; exact ⟨x, y, rfl, e, Option.some.inj h⟩
theorem om_split {o : Option AH} {g : AH → Nat} {x : AH} {n : Nat} (e : o = some x) (h : o.map g = some n) : g x = n := by
  subst e; exact Option.some.inj h
theorem sim_zero (L : Nat) (xs : Nat → Int32) : Sim L xs hzero (h00 L xs) := by
  refine ⟨rfl, rfl, Nat.le_refl 4, fun a ha => ?_, fun a k _ q => (by cases q), rfl, fun _ => rfl⟩
  match a, ha with
  | 0, _ => exact ⟨rfl, fun _ => rfl, fun _ => rfl, fun _ => rfl⟩
  | 1, _ => exact ⟨rfl, fun _ => rfl, fun _ => rfl, fun _ => rfl⟩
  | 2, _ => exact ⟨rfl, fun _ => rfl, fun _ => rfl, fun _ => rfl⟩
  | 3, h => exact absurd rfl h
  | a + 4, _ => exact ⟨rfl, fun _ => rfl, fun _ => rfl, fun _ => rfl⟩
theorem honeOK_s {h : AH} (hz : honeOK h = true) : (((((((hM h = 237 ∧ hZ h = 79765) ∧ (∀ i ∈ List.range 233, hK h (4 + i) = kTab.getD i (0, 0))) ∧ (∀ q ∈ rTab, hR h q.1 q.2.1 = some q.2.2)) ∧ (∀ q ∈ iTab, hI h q.1 q.2 = 0)) ∧ hR h 100 2 = none) ∧ hR h 100 3 = none) ∧ (∀ k ∈ List.range 64, hJ h 140 k = if k = 0 then 1 else 0)) ∧ (((((hK h 0 = (1, 4) ∧ hK h 1 = (1, 4)) ∧ hK h 2 = (4, 6)) ∧ (∀ k ∈ List.range 4, hI h 0 k = tLT k)) ∧ (∀ k ∈ List.range 4, hI h 1 k = tGT k)) ∧ (∀ k ∈ List.range 6, hJ h 2 k = tWF k)) := by
  unfold honeOK at hz
  simp only [Bool.and_eq_true, decide_eq_true_eq, List.all_eq_true] at hz
  exact hz
/-- the start: both objects stand, nothing is in them -/
theorem init_ok (L : Nat) (xs : Nat → Int32) : ∃ h1 h2, f_C_init (nO 0 (h00 L xs)) 4 = some h1 ∧ hM h1 = 201 ∧ f_M_init (nO 12 h1) 201 = some h2 ∧ Lay h2 ∧ hM h2 = 237 ∧ hZ h2 = 79765 ∧ hK h2 3 = (1, L) ∧ (∀ k, hI h2 3 k = xs k) ∧ (∀ q ∈ iTab, hI h2 q.1 q.2 = 0) ∧ hR h2 100 2 = none ∧ hR h2 100 3 = none ∧ ∀ k, k < 64 → hJ h2 140 k = if k = 0 then 1 else 0 := by
  obtain ⟨g1, g2, e1, e2, hz⟩ := ob_split (o := f_C_init (nO 0 hzero) 4) (f := fun h => f_M_init (nO 12 h) (hM h)) hone_ok
  have hm1 : hM g1 = 201 := om_split e1 hone_1
  have hs : Sim L xs hzero (h00 L xs) := sim_zero L xs
  generalize hzero = z at hs e1
  obtain ⟨h1, f1, s1⟩ := s_C_init (s_nO hs 0) (o := 4) (by decide) g1 e1
  have e2 : f_M_init (nO 12 g1) (hM g1) = some g2 := e2
  rw [hm1] at e2
  obtain ⟨h2, f2, s2⟩ := s_M_init (s_nO s1 12) (o := 201) (by decide) g2 e2
  obtain ⟨⟨⟨⟨⟨⟨⟨⟨z1, z2⟩, z3⟩, z4⟩, z5⟩, z6⟩, z7⟩, z8⟩, ⟨⟨⟨⟨⟨y1, y2⟩, y3⟩, y4⟩, y5⟩, y6⟩⟩ := honeOK_s hz
  obtain ⟨q1, q2, q3, q4, q5, q6, q7⟩ := s2
  refine ⟨h1, h2, f1, by rw [← s1.1]; exact hm1, f2, ⟨fun a a1 a2 => ?_, fun q hq => ?_, ⟨?_, ?_, ?_⟩, fun k hk => ?_, fun k hk => ?_, fun k hk => ?_, by omega⟩, by omega, by omega, q6, q7, fun q hq => ?_, ?_, ?_, fun k hk => ?_⟩
  · rw [← (q4 a (by omega)).1]
    have := z3 (a - 4) (List.mem_range.mpr (by omega))
    rwa [show 4 + (a - 4) = a by omega] at this
  · have h3 : q.1 ≠ 3 := by
      have hall : ∀ q ∈ rTab, q.1 ≠ 3 := by decide +kernel
      exact hall q hq
    rw [← (q4 q.1 h3).2.2.2]
    exact z4 q hq
  · rw [← (q4 0 (by decide)).1]; exact y1
  · rw [← (q4 1 (by decide)).1]; exact y2
  · rw [← (q4 2 (by decide)).1]; exact y3
  · rw [← (q4 0 (by decide)).2.1]; exact y4 k (List.mem_range.mpr hk)
  · rw [← (q4 1 (by decide)).2.1]; exact y5 k (List.mem_range.mpr hk)
  · rw [← (q4 2 (by decide)).2.2.1]; exact y6 k (List.mem_range.mpr hk)
  · have h3 : q.1 ≠ 3 := by
      have hall : ∀ q ∈ iTab, q.1 ≠ 3 := by decide +kernel
      exact hall q hq
    rw [← (q4 q.1 h3).2.1]
    exact z5 q hq
  · rw [← (q4 100 (by decide)).2.2.2]; exact z6
  · rw [← (q4 100 (by decide)).2.2.2]; exact z7
  · rw [← (q4 140 (by decide)).2.2.1]; exact z8 k (List.mem_range.mpr hk)
theorem HS : (∀ (h : AH) (a k : Nat) (v : Int32) (b j : Nat), hI (uI h a k v) b j = if b = a ∧ j = k then v else hI h b j) ∧ (∀ (h : AH) (a k : Nat) (v : Int64) (b j : Nat), hI (uJ h a k v) b j = hI h b j) ∧ (∀ (h : AH) (a k : Nat) (v : Option Nat) (b j : Nat), hI (uR h a k v) b j = hI h b j) ∧
    (∀ (h : AH) (a k : Nat) (v : Int32) (b j : Nat), hJ (uI h a k v) b j = hJ h b j) ∧ (∀ (h : AH) (a k : Nat) (v : Int64) (b j : Nat), hJ (uJ h a k v) b j = if b = a ∧ j = k then v else hJ h b j) ∧ (∀ (h : AH) (a k : Nat) (v : Option Nat) (b j : Nat), hJ (uR h a k v) b j = hJ h b j) ∧
    (∀ (h : AH) (a k : Nat) (v : Int32) (b j : Nat), hR (uI h a k v) b j = hR h b j) ∧ (∀ (h : AH) (a k : Nat) (v : Int64) (b j : Nat), hR (uJ h a k v) b j = hR h b j) ∧ (∀ (h : AH) (a k : Nat) (v : Option Nat) (b j : Nat), hR (uR h a k v) b j = if b = a ∧ j = k then v else hR h b j) ∧
    (∀ (h : AH) (a k : Nat) (v : Int32) (b : Nat), hK (uI h a k v) b = hK h b) ∧ (∀ (h : AH) (a k : Nat) (v : Int64) (b : Nat), hK (uJ h a k v) b = hK h b) ∧ (∀ (h : AH) (a k : Nat) (v : Option Nat) (b : Nat), hK (uR h a k v) b = hK h b) ∧
    (∀ (h : AH) (a k : Nat) (v : Int32), hM (uI h a k v) = hM h) ∧ (∀ (h : AH) (a k : Nat) (v : Int64), hM (uJ h a k v) = hM h) ∧ (∀ (h : AH) (a k : Nat) (v : Option Nat), hM (uR h a k v) = hM h) ∧
    (∀ (h : AH) (a k : Nat) (v : Int32), hZ (uI h a k v) = hZ h) ∧ (∀ (h : AH) (a k : Nat) (v : Int64), hZ (uJ h a k v) = hZ h) ∧ (∀ (h : AH) (a k : Nat) (v : Option Nat), hZ (uR h a k v) = hZ h) ∧
    (∀ (h : AH) (a : Nat) (f : Nat → Int32) (b j : Nat), hI (uIr h a f) b j = if b = a then f j else hI h b j) ∧ (∀ (h : AH) (a : Nat) (f : Nat → Int32) (b j : Nat), hJ (uIr h a f) b j = hJ h b j) ∧ (∀ (h : AH) (a : Nat) (f : Nat → Int32) (b j : Nat), hR (uIr h a f) b j = hR h b j) ∧ (∀ (h : AH) (a : Nat) (f : Nat → Int32) (b : Nat), hK (uIr h a f) b = hK h b) ∧ (∀ (h : AH) (a : Nat) (f : Nat → Int32), hM (uIr h a f) = hM h) ∧ (∀ (h : AH) (a : Nat) (f : Nat → Int32), hZ (uIr h a f) = hZ h) ∧
    (∀ (h : AH) (a : Nat) (f : Nat → Int64) (b j : Nat), hJ (uJr h a f) b j = if b = a then f j else hJ h b j) ∧ (∀ (h : AH) (a : Nat) (f : Nat → Int64) (b j : Nat), hI (uJr h a f) b j = hI h b j) ∧ (∀ (h : AH) (a : Nat) (f : Nat → Int64) (b j : Nat), hR (uJr h a f) b j = hR h b j) ∧ (∀ (h : AH) (a : Nat) (f : Nat → Int64) (b : Nat), hK (uJr h a f) b = hK h b) ∧ (∀ (h : AH) (a : Nat) (f : Nat → Int64), hM (uJr h a f) = hM h) ∧ (∀ (h : AH) (a : Nat) (f : Nat → Int64), hZ (uJr h a f) = hZ h) :=
  ⟨fun _ _ _ _ _ _ => rfl, fun _ _ _ _ _ _ => rfl, fun _ _ _ _ _ _ => rfl, fun _ _ _ _ _ _ => rfl, fun _ _ _ _ _ _ => rfl, fun _ _ _ _ _ _ => rfl, fun _ _ _ _ _ _ => rfl, fun _ _ _ _ _ _ => rfl, fun _ _ _ _ _ _ => rfl, fun _ _ _ _ _ => rfl, fun _ _ _ _ _ => rfl, fun _ _ _ _ _ => rfl, fun _ _ _ _ => rfl, fun _ _ _ _ => rfl, fun _ _ _ _ => rfl, fun _ _ _ _ => rfl, fun _ _ _ _ => rfl, fun _ _ _ _ => rfl, fun _ _ _ _ _ => rfl, fun _ _ _ _ _ => rfl, fun _ _ _ _ _ => rfl, fun _ _ _ _ => rfl, fun _ _ _ => rfl, fun _ _ _ => rfl, fun _ _ _ _ _ => rfl, fun _ _ _ _ _ => rfl, fun _ _ _ _ _ => rfl, fun _ _ _ _ => rfl, fun _ _ _ => rfl, fun _ _ _ => rfl⟩
theorem LayU : (∀ (h : AH) (a k : Nat) (v : Int32), 4 ≤ a → (Lay (uI h a k v) ↔ Lay h)) ∧ (∀ (h : AH) (a k : Nat) (v : Int64), 4 ≤ a → (Lay (uJ h a k v) ↔ Lay h)) ∧ (∀ (h : AH) (a : Nat) (f : Nat → Int32), 4 ≤ a → (Lay (uIr h a f) ↔ Lay h)) ∧ (∀ (h : AH) (a : Nat) (f : Nat → Int64), 4 ≤ a → (Lay (uJr h a f) ↔ Lay h)) := by
  refine ⟨fun h a k v ha => ?_, fun h a k v ha => ?_, fun h a f ha => ?_, fun h a f ha => ?_⟩
  · have e0 : ∀ j, hI (uI h a k v) 0 j = hI h 0 j := fun j => by show (if 0 = a ∧ j = k then v else hI h 0 j) = _; rw [if_neg (by omega)]
    have e1 : ∀ j, hI (uI h a k v) 1 j = hI h 1 j := fun j => by show (if 1 = a ∧ j = k then v else hI h 1 j) = _; rw [if_neg (by omega)]
    unfold Lay
    simp only [e0, e1]
    exact Iff.rfl
  · have e0 : ∀ j, hJ (uJ h a k v) 2 j = hJ h 2 j := fun j => by show (if 2 = a ∧ j = k then v else hJ h 2 j) = _; rw [if_neg (by omega)]
    unfold Lay
    simp only [e0]
    exact Iff.rfl
  · have e0 : ∀ j, hI (uIr h a f) 0 j = hI h 0 j := fun j => by show (if 0 = a then f j else hI h 0 j) = _; rw [if_neg (by omega)]
    have e1 : ∀ j, hI (uIr h a f) 1 j = hI h 1 j := fun j => by show (if 1 = a then f j else hI h 1 j) = _; rw [if_neg (by omega)]
    unfold Lay
    simp only [e0, e1]
    exact Iff.rfl
  · have e0 : ∀ j, hJ (uJr h a f) 2 j = hJ h 2 j := fun j => by show (if 2 = a then f j else hJ h 2 j) = _; rw [if_neg (by omega)]
    unfold Lay
    simp only [e0]
    exact Iff.rfl
theorem Lay.K {h : AH} (hl : Lay h) (a : Nat) {q : Nat × Nat} (h1 : Nat.ble 4 a = true) (h2 : Nat.blt a 237 = true) (h3 : kTab.getD (a - 4) (0, 0) = q) : hK h a = q := by
  rw [← h3]; exact hl.1 a (Nat.le_of_ble_eq_true h1) (Nat.le_of_ble_eq_true h2)
theorem Lay.R {h : AH} (hl : Lay h) (a k r : Nat) (h1 : (a, k, r) ∈ rTab) : hR h a k = some r := hl.2.1 (a, k, r) h1
theorem LK {h : AH} (hl : Lay h) : hK h 4 = (100, 0) ∧ hK h 5 = (107, 0) ∧ hK h 6 = (1, 80) ∧ hK h 7 = (15, 81) ∧ hK h 8 = (1, 41) ∧ hK h 9 = (4, 41) ∧ hK h 91 = (19, 6) ∧ hK h 92 = (110, 0) ∧ hK h 93 = (1, 4000) ∧ hK h 94 = (1, 4000) ∧ hK h 95 = (1, 4000) ∧ hK h 96 = (1, 8192) ∧ hK h 97 = (1, 4000) ∧ hK h 98 = (102, 0) ∧ hK h 99 = (1, 25) ∧ hK h 100 = (101, 0) ∧ hK h 101 = (1, 6720) ∧ hK h 102 = (1, 5) ∧ hK h 103 = (1, 8) ∧ hK h 104 = (1, 8) ∧ hK h 105 = (1, 25) ∧ hK h 106 = (1, 625) ∧ hK h 107 = (108, 0) ∧ hK h 108 = (14, 8) ∧ hK h 109 = (1, 12) ∧ hK h 110 = (1, 5) ∧ hK h 111 = (13, 6) ∧ hK h 112 = (103, 0) ∧ hK h 113 = (1, 12) ∧ hK h 114 = (1, 8) ∧ hK h 115 = (1, 5) ∧ hK h 116 = (1, 5) ∧ hK h 135 = (106, 0) ∧ hK h 136 = (21, 31) ∧ hK h 137 = (111, 0) ∧ hK h 138 = (4, 64) ∧ hK h 201 = (112, 0) ∧ hK h 202 = (3, 80) ∧ hK h 203 = (1, 6) ∧ hK h 204 = (1, 2400) ∧ hK h 205 = (2, 150) ∧ hK h 206 = (1, 8) ∧ hK h 207 = (1, 8) ∧ hK h 208 = (1, 8) ∧ hK h 209 = (1, 40) ∧ hK h 210 = (1, 12) ∧ hK h 211 = (1, 5) ∧ hK h 212 = (1, 30) ∧ hK h 213 = (1, 30) ∧ hK h 214 = (1, 81) ∧ hK h 215 = (1, 81) ∧ hK h 216 = (2, 81) ∧ hK h 217 = (4, 81) ∧ hK h 218 = (4, 81) ∧ hK h 219 = (2, 81) ∧ hK h 220 = (4, 81) ∧ hK h 221 = (4, 81) ∧ hK h 222 = (1, 40) ∧ hK h 223 = (4, 40) ∧ hK h 224 = (1, 4001) ∧ hK h 225 = (1, 4001) ∧ hK h 226 = (1, 4001) ∧ hK h 227 = (1, 4001) ∧ hK h 228 = (1, 16384) ∧ hK h 229 = (1, 8) ∧ hK h 230 = (1, 8) ∧ hK h 231 = (2, 625) ∧ hK h 232 = (1, 12) ∧ hK h 233 = (1, 5) ∧ hK h 234 = (1, 5) ∧ hK h 235 = (2, 4096) ∧ hK h 236 = (2, 4096) :=
  ⟨hl.K 4 rfl rfl (by decide +kernel), hl.K 5 rfl rfl (by decide +kernel), hl.K 6 rfl rfl (by decide +kernel), hl.K 7 rfl rfl (by decide +kernel), hl.K 8 rfl rfl (by decide +kernel), hl.K 9 rfl rfl (by decide +kernel), hl.K 91 rfl rfl (by decide +kernel), hl.K 92 rfl rfl (by decide +kernel), hl.K 93 rfl rfl (by decide +kernel), hl.K 94 rfl rfl (by decide +kernel), hl.K 95 rfl rfl (by decide +kernel), hl.K 96 rfl rfl (by decide +kernel), hl.K 97 rfl rfl (by decide +kernel), hl.K 98 rfl rfl (by decide +kernel), hl.K 99 rfl rfl (by decide +kernel), hl.K 100 rfl rfl (by decide +kernel), hl.K 101 rfl rfl (by decide +kernel), hl.K 102 rfl rfl (by decide +kernel), hl.K 103 rfl rfl (by decide +kernel), hl.K 104 rfl rfl (by decide +kernel), hl.K 105 rfl rfl (by decide +kernel), hl.K 106 rfl rfl (by decide +kernel), hl.K 107 rfl rfl (by decide +kernel), hl.K 108 rfl rfl (by decide +kernel), hl.K 109 rfl rfl (by decide +kernel), hl.K 110 rfl rfl (by decide +kernel), hl.K 111 rfl rfl (by decide +kernel), hl.K 112 rfl rfl (by decide +kernel), hl.K 113 rfl rfl (by decide +kernel), hl.K 114 rfl rfl (by decide +kernel), hl.K 115 rfl rfl (by decide +kernel), hl.K 116 rfl rfl (by decide +kernel), hl.K 135 rfl rfl (by decide +kernel), hl.K 136 rfl rfl (by decide +kernel), hl.K 137 rfl rfl (by decide +kernel), hl.K 138 rfl rfl (by decide +kernel), hl.K 201 rfl rfl (by decide +kernel), hl.K 202 rfl rfl (by decide +kernel), hl.K 203 rfl rfl (by decide +kernel), hl.K 204 rfl rfl (by decide +kernel), hl.K 205 rfl rfl (by decide +kernel), hl.K 206 rfl rfl (by decide +kernel), hl.K 207 rfl rfl (by decide +kernel), hl.K 208 rfl rfl (by decide +kernel), hl.K 209 rfl rfl (by decide +kernel), hl.K 210 rfl rfl (by decide +kernel), hl.K 211 rfl rfl (by decide +kernel), hl.K 212 rfl rfl (by decide +kernel), hl.K 213 rfl rfl (by decide +kernel), hl.K 214 rfl rfl (by decide +kernel), hl.K 215 rfl rfl (by decide +kernel), hl.K 216 rfl rfl (by decide +kernel), hl.K 217 rfl rfl (by decide +kernel), hl.K 218 rfl rfl (by decide +kernel), hl.K 219 rfl rfl (by decide +kernel), hl.K 220 rfl rfl (by decide +kernel), hl.K 221 rfl rfl (by decide +kernel), hl.K 222 rfl rfl (by decide +kernel), hl.K 223 rfl rfl (by decide +kernel), hl.K 224 rfl rfl (by decide +kernel), hl.K 225 rfl rfl (by decide +kernel), hl.K 226 rfl rfl (by decide +kernel), hl.K 227 rfl rfl (by decide +kernel), hl.K 228 rfl rfl (by decide +kernel), hl.K 229 rfl rfl (by decide +kernel), hl.K 230 rfl rfl (by decide +kernel), hl.K 231 rfl rfl (by decide +kernel), hl.K 232 rfl rfl (by decide +kernel), hl.K 233 rfl rfl (by decide +kernel), hl.K 234 rfl rfl (by decide +kernel), hl.K 235 rfl rfl (by decide +kernel), hl.K 236 rfl rfl (by decide +kernel)⟩
theorem LR {h : AH} (hl : Lay h) : hR h 4 0 = some 5 ∧ hR h 4 1 = some 91 ∧ hR h 4 3 = some 92 ∧ hR h 4 4 = some 98 ∧ hR h 4 5 = some 100 ∧ hR h 4 8 = some 107 ∧ hR h 4 10 = some 135 ∧ hR h 5 0 = some 6 ∧ hR h 5 2 = some 7 ∧ hR h 5 5 = some 8 ∧ hR h 5 6 = some 9 ∧ hR h 92 0 = some 93 ∧ hR h 92 1 = some 94 ∧ hR h 92 2 = some 95 ∧ hR h 92 4 = some 96 ∧ hR h 92 6 = some 97 ∧ hR h 98 0 = some 99 ∧ hR h 100 0 = some 101 ∧ hR h 100 4 = some 102 ∧ hR h 100 6 = some 103 ∧ hR h 100 7 = some 104 ∧ hR h 100 8 = some 105 ∧ hR h 100 9 = some 106 ∧ hR h 107 0 = some 108 ∧ hR h 107 2 = some 109 ∧ hR h 107 3 = some 110 ∧ hR h 107 5 = some 111 ∧ hR h 107 6 = some 112 ∧ hR h 107 7 = some 115 ∧ hR h 107 8 = some 116 ∧ hR h 112 1 = some 113 ∧ hR h 112 2 = some 114 ∧ hR h 135 0 = some 136 ∧ hR h 135 2 = some 137 ∧ hR h 137 0 = some 138 ∧ hR h 201 1 = some 202 ∧ hR h 201 3 = some 203 ∧ hR h 201 4 = some 204 ∧ hR h 201 5 = some 205 ∧ hR h 201 10 = some 206 ∧ hR h 201 11 = some 207 ∧ hR h 201 12 = some 208 ∧ hR h 201 13 = some 209 ∧ hR h 201 14 = some 210 ∧ hR h 201 16 = some 211 ∧ hR h 201 19 = some 212 ∧ hR h 201 20 = some 213 ∧ hR h 201 22 = some 214 ∧ hR h 201 23 = some 215 ∧ hR h 201 24 = some 216 ∧ hR h 201 25 = some 217 ∧ hR h 201 26 = some 218 ∧ hR h 201 27 = some 219 ∧ hR h 201 28 = some 220 ∧ hR h 201 29 = some 221 ∧ hR h 201 31 = some 222 ∧ hR h 201 32 = some 223 ∧ hR h 201 37 = some 224 ∧ hR h 201 39 = some 225 ∧ hR h 201 40 = some 226 ∧ hR h 201 41 = some 227 ∧ hR h 201 42 = some 228 ∧ hR h 201 43 = some 229 ∧ hR h 201 44 = some 230 ∧ hR h 201 49 = some 231 ∧ hR h 201 52 = some 232 ∧ hR h 201 53 = some 233 ∧ hR h 201 54 = some 234 ∧ hR h 201 55 = some 235 ∧ hR h 201 56 = some 236 :=
  ⟨hl.R 4 0 5 (by decide +kernel), hl.R 4 1 91 (by decide +kernel), hl.R 4 3 92 (by decide +kernel), hl.R 4 4 98 (by decide +kernel), hl.R 4 5 100 (by decide +kernel), hl.R 4 8 107 (by decide +kernel), hl.R 4 10 135 (by decide +kernel), hl.R 5 0 6 (by decide +kernel), hl.R 5 2 7 (by decide +kernel), hl.R 5 5 8 (by decide +kernel), hl.R 5 6 9 (by decide +kernel), hl.R 92 0 93 (by decide +kernel), hl.R 92 1 94 (by decide +kernel), hl.R 92 2 95 (by decide +kernel), hl.R 92 4 96 (by decide +kernel), hl.R 92 6 97 (by decide +kernel), hl.R 98 0 99 (by decide +kernel), hl.R 100 0 101 (by decide +kernel), hl.R 100 4 102 (by decide +kernel), hl.R 100 6 103 (by decide +kernel), hl.R 100 7 104 (by decide +kernel), hl.R 100 8 105 (by decide +kernel), hl.R 100 9 106 (by decide +kernel), hl.R 107 0 108 (by decide +kernel), hl.R 107 2 109 (by decide +kernel), hl.R 107 3 110 (by decide +kernel), hl.R 107 5 111 (by decide +kernel), hl.R 107 6 112 (by decide +kernel), hl.R 107 7 115 (by decide +kernel), hl.R 107 8 116 (by decide +kernel), hl.R 112 1 113 (by decide +kernel), hl.R 112 2 114 (by decide +kernel), hl.R 135 0 136 (by decide +kernel), hl.R 135 2 137 (by decide +kernel), hl.R 137 0 138 (by decide +kernel), hl.R 201 1 202 (by decide +kernel), hl.R 201 3 203 (by decide +kernel), hl.R 201 4 204 (by decide +kernel), hl.R 201 5 205 (by decide +kernel), hl.R 201 10 206 (by decide +kernel), hl.R 201 11 207 (by decide +kernel), hl.R 201 12 208 (by decide +kernel), hl.R 201 13 209 (by decide +kernel), hl.R 201 14 210 (by decide +kernel), hl.R 201 16 211 (by decide +kernel), hl.R 201 19 212 (by decide +kernel), hl.R 201 20 213 (by decide +kernel), hl.R 201 22 214 (by decide +kernel), hl.R 201 23 215 (by decide +kernel), hl.R 201 24 216 (by decide +kernel), hl.R 201 25 217 (by decide +kernel), hl.R 201 26 218 (by decide +kernel), hl.R 201 27 219 (by decide +kernel), hl.R 201 28 220 (by decide +kernel), hl.R 201 29 221 (by decide +kernel), hl.R 201 31 222 (by decide +kernel), hl.R 201 32 223 (by decide +kernel), hl.R 201 37 224 (by decide +kernel), hl.R 201 39 225 (by decide +kernel), hl.R 201 40 226 (by decide +kernel), hl.R 201 41 227 (by decide +kernel), hl.R 201 42 228 (by decide +kernel), hl.R 201 43 229 (by decide +kernel), hl.R 201 44 230 (by decide +kernel), hl.R 201 49 231 (by decide +kernel), hl.R 201 52 232 (by decide +kernel), hl.R 201 53 233 (by decide +kernel), hl.R 201 54 234 (by decide +kernel), hl.R 201 55 235 (by decide +kernel), hl.R 201 56 236 (by decide +kernel)⟩
theorem Lay.level {h : AH} (hl : Lay h) {i : Nat} (hi : i < 81) : hK h (10 + i) = (105, 0) ∧ hR h 7 i = some (10 + i) := by
  have e1 : ∀ i, i < 81 → kTab.getD (10 + i - 4) (0, 0) = (105, 0) := by decide +kernel
  have e2 : ∀ i, i < 81 → (7, i, 10 + i) ∈ rTab := by decide +kernel
  exact ⟨by rw [hl.1 _ (by omega) (by omega)]; exact e1 i hi, hl.R _ _ _ (e2 i hi)⟩
theorem Lay.going {h : AH} (hl : Lay h) {i : Nat} (hi : i < 6) : hK h (117 + 3 * i) = (103, 0) ∧ hK h (118 + 3 * i) = (1, 12) ∧ hK h (119 + 3 * i) = (1, 8) ∧ hR h 111 i = some (117 + 3 * i) ∧ hR h (117 + 3 * i) 1 = some (118 + 3 * i) ∧ hR h (117 + 3 * i) 2 = some (119 + 3 * i) := by
  have e1 : ∀ i, i < 6 → kTab.getD (117 + 3 * i - 4) (0, 0) = (103, 0) ∧ kTab.getD (118 + 3 * i - 4) (0, 0) = (1, 12) ∧ kTab.getD (119 + 3 * i - 4) (0, 0) = (1, 8) := by decide +kernel
  have e2 : ∀ i, i < 6 → (111, i, 117 + 3 * i) ∈ rTab ∧ (117 + 3 * i, 1, 118 + 3 * i) ∈ rTab ∧ (117 + 3 * i, 2, 119 + 3 * i) ∈ rTab := by decide +kernel
  obtain ⟨a1, a2, a3⟩ := e1 i hi
  obtain ⟨b1, b2, b3⟩ := e2 i hi
  exact ⟨by rw [hl.1 _ (by omega) (by omega)]; exact a1, by rw [hl.1 _ (by omega) (by omega)]; exact a2, by rw [hl.1 _ (by omega) (by omega)]; exact a3, hl.R _ _ _ b1, hl.R _ _ _ b2, hl.R _ _ _ b3⟩
theorem Lay.wrld {h : AH} (hl : Lay h) {t : Nat} (ht : t < 31) : hK h (139 + 2 * t) = (111, 0) ∧ hK h (140 + 2 * t) = (4, 64) ∧ hR h 136 t = some (139 + 2 * t) ∧ hR h (139 + 2 * t) 0 = some (140 + 2 * t) := by
  have e1 : ∀ i, i < 31 → kTab.getD (139 + 2 * i - 4) (0, 0) = (111, 0) ∧ kTab.getD (140 + 2 * i - 4) (0, 0) = (4, 64) := by decide +kernel
  have e2 : ∀ i, i < 31 → (136, i, 139 + 2 * i) ∈ rTab ∧ (139 + 2 * i, 0, 140 + 2 * i) ∈ rTab := by decide +kernel
  obtain ⟨a1, a2⟩ := e1 t ht
  obtain ⟨b1, b2⟩ := e2 t ht
  exact ⟨by rw [hl.1 _ (by omega) (by omega)]; exact a1, by rw [hl.1 _ (by omega) (by omega)]; exact a2, hl.R _ _ _ b1, hl.R _ _ _ b2⟩
