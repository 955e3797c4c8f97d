/-! helper() -/
section NEW
variable {h : AH}
theorem K_new {q : Nat × Nat} {n : Nat} : hK (uN' h q n) (hM h) = q := if_pos rfl
theorem K_old {q : Nat × Nat} {n a : Nat} (ha : a ≠ hM h) : hK (uN' h q n) a = hK h a := if_neg ha
theorem I_new {q : Nat × Nat} {n k : Nat} : hI (uN' h q n) (hM h) k = 0 := if_pos rfl
theorem I_old {q : Nat × Nat} {n a k : Nat} (ha : a ≠ hM h) : hI (uN' h q n) a k = hI h a k := if_neg ha
theorem J_old {q : Nat × Nat} {n a k : Nat} (ha : a ≠ hM h) : hJ (uN' h q n) a k = hJ h a k := if_neg ha
theorem R_old {q : Nat × Nat} {n a k : Nat} (ha : a ≠ hM h) : hR (uN' h q n) a k = hR h a k := if_neg ha
theorem R_new {q : Nat × Nat} {n k : Nat} : hR (uN' h q n) (hM h) k = none := if_pos rfl
theorem nAr_n {d n : Nat} (hn : n ≤ 1000000) : nAr d h (nI n) = some (uN' h (d, n) n) := by
  unfold nAr
  rw [cl_nI (by omega), if_pos ⟨nI_n0 n (by omega), hn⟩]
theorem rTab_lt : ∀ q ∈ rTab, q.1 < 237 := by decide +kernel
theorem Lay.grow {q : Nat × Nat} {n : Nat} (hl : Lay h) : Lay (uN' h q n) := by
  obtain ⟨l1, l2, ⟨l3, l4, l5⟩, l6, l7, l8, l9⟩ := hl
  refine ⟨fun a a1 a2 => ?_, fun q hq => ?_, ⟨?_, ?_, ?_⟩, fun k hk => ?_, fun k hk => ?_, fun k hk => ?_, ?_⟩
  · rw [K_old (by omega)]; exact l1 a a1 a2
  · have := rTab_lt q hq
    rw [R_old (by omega)]; exact l2 q hq
  · rw [K_old (by omega)]; exact l3
  · rw [K_old (by omega)]; exact l4
  · rw [K_old (by omega)]; exact l5
  · rw [I_old (by omega)]; exact l6 k hk
  · rw [I_old (by omega)]; exact l7 k hk
  · rw [J_old (by omega)]; exact l8 k hk
  · show 237 ≤ hM h + 1; omega
theorem Lay.uR {a k : Nat} {v : Option Nat} (hl : Lay h) (hd : ∀ q ∈ rTab, ¬ (q.1 = a ∧ q.2.1 = k)) : Lay (uR h a k v) := by
  obtain ⟨l1, l2, l3⟩ := hl
  refine ⟨l1, fun q hq => ?_, l3⟩
  show (if q.1 = a ∧ q.2.1 = k then v else hR h q.1 q.2.1) = _
  rw [if_neg (hd q hq)]; exact l2 q hq
theorem rTab_108 : ∀ q ∈ rTab, q.1 ≠ 108 := by decide +kernel
theorem rTab_91 : ∀ q ∈ rTab, q.1 ≠ 91 := by decide +kernel
theorem wR_n {c a len j v : Nat} (hk : hK h a = (10 + c, len)) (hj : j < len) (hl : len < 2 ^ 31) (hv : hK h v = (100 + c, 0)) : wR c h a (nI j) (some v) = some (uR h a j (some v)) := by
  unfold wR
  rw [if_pos (fun x hx => by cases hx; exact hv), ix_n hk hj hl]; rfl
/-- h' has all that h has made, and n cells more -/
def Grew (n z : Nat) (h h' : AH) : Prop := hM h' = hM h + n ∧ hZ h' = hZ h + z ∧ ∀ a, a < hM h → hK h' a = hK h a ∧ (∀ k, hI h' a k = hI h a k) ∧ (∀ k, hJ h' a k = hJ h a k) ∧ ∀ k, hR h' a k = hR h a k
theorem He_ok (hl : Lay h) (x y z : Int32) : ∃ g, f_He_init (nO 4 h) (hM h) x y z = some g ∧ Grew 2 9 h g ∧ hK g (hM h) = (104, 0) ∧ hK g (hM h + 1) = (1, 8) ∧ hR g (hM h) 0 = some (hM h + 1) ∧ hI g (hM h + 1) 0 = 0 ∧ hI g (hM h + 1) 1 = 0 ∧ hI g (hM h + 1) 2 = 3 ∧ hI g (hM h + 1) 3 = 3 ∧ hI g (hM h + 1) 4 = -1 ∧ hI g (hM h + 1) 5 = x ∧ hI g (hM h + 1) 6 = y ∧ hI g (hM h + 1) 7 = z ∧ Lay g := by
  have h9 := hl.2.2.2.2.2.2
  obtain ⟨M, hM0⟩ : ∃ M, M = hM h := ⟨_, rfl⟩
  have hl0 : Lay (nO 4 h) := hl.grow
  have hm0 : hM (nO 4 h) = M + 1 := by rw [hM0]; rfl
  obtain ⟨g0, eg0⟩ : ∃ g0, g0 = uN' (nO 4 h) (1, 8) 8 := ⟨_, rfl⟩
  have hlg : Lay g0 := by rw [eg0]; exact hl0.grow
  have kM : hK g0 M = (104, 0) := by
    rw [eg0, K_old (by omega), hM0]; exact K_new
  have kM1 : hK g0 (M + 1) = (1, 8) := by rw [eg0, ← hm0]; exact K_new
  obtain ⟨g1, eg1⟩ : ∃ g1, g1 = uR g0 M 0 (some (M + 1)) := ⟨_, rfl⟩
  have hl1 : Lay g1 := by rw [eg1]; exact hlg.uR (fun q hq z => by have := rTab_lt q hq; omega)
  have k1 : ∀ a, hK g1 a = hK g0 a := fun a => by rw [eg1]; rfl
  have rM : hR g1 M 0 = some (M + 1) := by rw [eg1]; exact if_pos ⟨rfl, rfl⟩
  have t2 : ∀ g, Lay g → rI 1 g 1 (2 : Int32) = some 3 := fun g hg => tGT_at hg (w := 2) (by decide)
  have t3 : ∀ g, Lay g → rI 1 g 1 (3 : Int32) = some 3 := fun g hg => tGT_at hg (w := 3) (by decide)
  have wr : ∀ (g : AH) (j : Nat) (v : Int32), hK g (M + 1) = (1, 8) → j < 8 → wI g (M + 1) (nI j) v = some (uI g (M + 1) j v) := fun g j v hk hj => wI_n (by omega) hk hj (by decide)
  have gr : ∀ (g : AH), hK g M = (104, 0) → gR 4 g M 0 = some (hR g M 0) := fun g hk => gR_n (c := 4) hk
  refine ⟨uI (uI (uI (uI (uI (uI g1 (M + 1) 2 3) (M + 1) 3 3) (M + 1) 4 (-1)) (M + 1) 5 x) (M + 1) 6 y) (M + 1) 7 z, ?_, ?_, ?_, ?_, ?_, ?_, ?_, ?_, ?_, ?_, ?_, ?_, ?_, ?_⟩
  · rw [← hM0]
    unfold f_He_init
    rw [show (8 : Int32) = nI 8 from rfl, nAr_n (by decide), Option.bind_some, ← eg0, hm0, pR_n (c := 4) kM, Option.bind_some, ← eg1]
    have k1M : hK g1 M = (104, 0) := by rw [k1]; exact kM
    have k1M1 : hK g1 (M + 1) = (1, 8) := by rw [k1]; exact kM1
    have w2 : ∀ (g : AH) (v : Int32), hK g (M + 1) = (1, 8) → wI g (M + 1) 2 v = some (uI g (M + 1) 2 v) := fun g v hk => wr g 2 v hk (by decide)
    have w3 : ∀ (g : AH) (v : Int32), hK g (M + 1) = (1, 8) → wI g (M + 1) 3 v = some (uI g (M + 1) 3 v) := fun g v hk => wr g 3 v hk (by decide)
    have w4 : ∀ (g : AH) (v : Int32), hK g (M + 1) = (1, 8) → wI g (M + 1) 4 v = some (uI g (M + 1) 4 v) := fun g v hk => wr g 4 v hk (by decide)
    have w5 : ∀ (g : AH) (v : Int32), hK g (M + 1) = (1, 8) → wI g (M + 1) 5 v = some (uI g (M + 1) 5 v) := fun g v hk => wr g 5 v hk (by decide)
    have w6 : ∀ (g : AH) (v : Int32), hK g (M + 1) = (1, 8) → wI g (M + 1) 6 v = some (uI g (M + 1) 6 v) := fun g v hk => wr g 6 v hk (by decide)
    have w7 : ∀ (g : AH) (v : Int32), hK g (M + 1) = (1, 8) → wI g (M + 1) 7 v = some (uI g (M + 1) 7 v) := fun g v hk => wr g 7 v hk (by decide)
    have hl2 : Lay (uI g1 (M + 1) 2 3) := hl1.uI (by omega)
    simp [gr, HS, k1M, k1M1, rM, t2 g1 hl1, t3 _ hl2, w2, w3, w4, w5, w6, w7]
  · refine ⟨?_, ?_, fun a ha => ?_⟩
    · show hM g1 = _; rw [eg1]; show hM g0 = _; rw [eg0]; show hM (nO 4 h) + 1 = _; omega
    · show hZ g1 = _; rw [eg1]; show hZ g0 = _; rw [eg0]; show hZ h + znf 4 + 8 = _; rfl
    · have e1 : a ≠ M + 1 := by omega
      have e2 : a ≠ M := by omega
      have e3 : a ≠ hM (nO 4 h) := by omega
      have e4 : a ≠ hM h := by omega
      refine ⟨?_, fun k => ?_, fun k => ?_, fun k => ?_⟩
      · show hK g1 a = _; rw [k1, eg0, K_old e3]; exact K_old e4
      · simp only [HS, e1, false_and, if_false]
        rw [eg1]; show hI g0 a k = _; rw [eg0, I_old e3]; exact I_old e4
      · show hJ g1 a k = _; rw [eg1]; show hJ g0 a k = _; rw [eg0, J_old e3]; exact J_old e4
      · show hR g1 a k = _; rw [eg1]; show (if a = M ∧ k = 0 then _ else hR g0 a k) = _
        rw [if_neg (fun z => e2 z.1), eg0, R_old e3]; exact R_old e4
  · rw [← hM0]; show hK g1 M = _; rw [k1]; exact kM
  · rw [← hM0]; show hK g1 (M + 1) = _; rw [k1]; exact kM1
  · rw [← hM0]; exact rM
  · rw [← hM0]; simp only [HS]; simp; rw [eg1]; show hI g0 (M + 1) 0 = 0; rw [eg0, ← hm0]; exact I_new
  · rw [← hM0]; simp only [HS]; simp; rw [eg1]; show hI g0 (M + 1) 1 = 0; rw [eg0, ← hm0]; exact I_new
  · rw [← hM0]; simp [HS]
  · rw [← hM0]; simp [HS]
  · rw [← hM0]; simp [HS]
  · rw [← hM0]; simp [HS]
  · rw [← hM0]; simp [HS]
  · rw [← hM0]; simp [HS]
  · exact (((((hl1.uI (by omega)).uI (by omega)).uI (by omega)).uI (by omega)).uI (by omega)).uI (by omega)
theorem HP.keep {h' : AH} {hn hn' s a : Nat} (r : HP h hn s a) (hm : hM h ≤ hM h') (k1 : hK h' a = hK h a) (k2 : hK h' (a + 1) = hK h (a + 1)) (k3 : hR h' a 0 = hR h a 0) (k4 : ∀ w, hI h' (a + 1) w = hI h (a + 1) w) (k5 : ∀ w, w < 5 → hI h' 209 (5 * s + w) = hI h 209 (5 * s + w)) (k6 : hI h' 206 s = hI h 206 s) (k7 : hI h' 207 s = hI h 207 s) (k8 : hI h' 208 s = hI h 208 s) (hh : hn ≤ hn') : HP h' hn' s a := by
  obtain ⟨r1, r2, r3, r4, r5, r6, r7, r8, r9, q1, q2, q3, q4, q5, q6, q7, q8⟩ := r
  have k50 := k5 0 (by decide)
  simp only [Nat.add_zero] at k50
  refine ⟨r1, by omega, by rw [k1]; exact r3, by rw [k2]; exact r4, by rw [k3]; exact r5, fun w hw => by rw [k4, k5 w hw]; exact r6 w hw, by rw [k4, k6]; exact r7, by rw [k4, k7]; exact r8, by rw [k4, k8]; exact r9, by rw [k50]; exact q1, by rw [k5 1 (by decide)]; exact q2, by rw [k5 2 (by decide)]; exact q3, by rw [k5 3 (by decide)]; exact q4, ?_, by rw [k6]; exact q6, by rw [k7]; exact q7, by rw [k8]; exact q8⟩
  rw [k5 4 (by decide)]
  rcases q5 with q | ⟨v, hv, q⟩
  · exact Or.inl q
  · exact Or.inr ⟨v, by omega, q⟩
end NEW
