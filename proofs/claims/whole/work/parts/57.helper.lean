/-! helper() -/
section NEW
variable {h : AH}
theorem K_new {q : Nat × Nat} {n : Nat} : hK (uN' h q n) (hM h) = q := if_pos rfl
theorem K_old {q : Nat × Nat} {n a : Nat} (ha : a ≠ hM h) : hK (uN' h q n) a = hK h a := if_neg ha
theorem I_new {q : Nat × Nat} {n k : Nat} : hI (uN' h q n) (hM h) k = 0 := if_pos rfl
theorem I_old {q : Nat × Nat} {n a k : Nat} (ha : a ≠ hM h) : hI (uN' h q n) a k = hI h a k := if_neg ha
theorem J_old {q : Nat × Nat} {n a k : Nat} (ha : a ≠ hM h) : hJ (uN' h q n) a k = hJ h a k := if_neg ha
theorem R_old {q : Nat × Nat} {n a k : Nat} (ha : a ≠ hM h) : hR (uN' h q n) a k = hR h a k := if_neg ha
theorem R_new {q : Nat × Nat} {n k : Nat} : hR (uN' h q n) (hM h) k = none := if_pos rfl
theorem nAr_n {d n : Nat} (hn : n ≤ 1000000) : nAr d h (nI n) = some (uN' h (d, n) n) := by
  unfold nAr
  rw [cl_nI (by omega), if_pos ⟨nI_n0 n (by omega), hn⟩]
theorem rTab_lt : ∀ q ∈ rTab, q.1 < 237 := by decide +kernel
theorem Lay.grow {q : Nat × Nat} {n : Nat} (hl : Lay h) : Lay (uN' h q n) := by
  obtain ⟨l1, l2, ⟨l3, l4, l5⟩, l6, l7, l8, l9⟩ := hl
  refine ⟨fun a a1 a2 => ?_, fun q hq => ?_, ⟨?_, ?_, ?_⟩, fun k hk => ?_, fun k hk => ?_, fun k hk => ?_, ?_⟩
  · rw [K_old (by omega)]; exact l1 a a1 a2
  · have := rTab_lt q hq
    rw [R_old (by omega)]; exact l2 q hq
  · rw [K_old (by omega)]; exact l3
  · rw [K_old (by omega)]; exact l4
  · rw [K_old (by omega)]; exact l5
  · rw [I_old (by omega)]; exact l6 k hk
  · rw [I_old (by omega)]; exact l7 k hk
  · rw [J_old (by omega)]; exact l8 k hk
  · show 237 ≤ hM h + 1; omega
theorem Lay.uR {a k : Nat} {v : Option Nat} (hl : Lay h) (hd : ∀ q ∈ rTab, ¬ (q.1 = a ∧ q.2.1 = k)) : Lay (uR h a k v) := by
  obtain ⟨l1, l2, l3⟩ := hl
  refine ⟨l1, fun q hq => ?_, l3⟩
  show (if q.1 = a ∧ q.2.1 = k then v else hR h q.1 q.2.1) = _
  rw [if_neg (hd q hq)]; exact l2 q hq
theorem rTab_108 : ∀ q ∈ rTab, q.1 ≠ 108 := by decide +kernel
theorem rTab_91 : ∀ q ∈ rTab, q.1 ≠ 91 := by decide +kernel
theorem wR_n {c a len j v : Nat} (hk : hK h a = (10 + c, len)) (hj : j < len) (hl : len < 2 ^ 31) (hv : hK h v = (100 + c, 0)) : wR c h a (nI j) (some v) = some (uR h a j (some v)) := by
  unfold wR
  rw [if_pos (fun x hx => by cases hx; exact hv), ix_n hk hj hl]; rfl
/-- h' has all that h has made, and n cells more -/
def Grew (n z : Nat) (h h' : AH) : Prop := hM h' = hM h + n ∧ hZ h' = hZ h + z ∧ ∀ a, a < hM h → hK h' a = hK h a ∧ (∀ k, hI h' a k = hI h a k) ∧ (∀ k, hJ h' a k = hJ h a k) ∧ ∀ k, hR h' a k = hR h a k
theorem He_ok (hl : Lay h) (x y z : Int32) : ∃ g, f_He_init (nO 4 h) (hM h) x y z = some g ∧ Grew 2 9 h g ∧ hK g (hM h) = (104, 0) ∧ hK g (hM h + 1) = (1, 8) ∧ hR g (hM h) 0 = some (hM h + 1) ∧ hI g (hM h + 1) 0 = 0 ∧ hI g (hM h + 1) 1 = 0 ∧ hI g (hM h + 1) 2 = 3 ∧ hI g (hM h + 1) 3 = 3 ∧ hI g (hM h + 1) 4 = -1 ∧ hI g (hM h + 1) 5 = x ∧ hI g (hM h + 1) 6 = y ∧ hI g (hM h + 1) 7 = z ∧ Lay g := by
  have h9 := hl.2.2.2.2.2.2
  obtain ⟨M, hM0⟩ : ∃ M, M = hM h := ⟨_, rfl⟩
  have hl0 : Lay (nO 4 h) := hl.grow
  have hm0 : hM (nO 4 h) = M + 1 := by rw [hM0]; rfl
  obtain ⟨g0, eg0⟩ : ∃ g0, g0 = uN' (nO 4 h) (1, 8) 8 := ⟨_, rfl⟩
  have hlg : Lay g0 := by rw [eg0]; exact hl0.grow
  have kM : hK g0 M = (104, 0) := by
    rw [eg0, K_old (by omega), hM0]; exact K_new
  have kM1 : hK g0 (M + 1) = (1, 8) := by rw [eg0, ← hm0]; exact K_new
  obtain ⟨g1, eg1⟩ : ∃ g1, g1 = uR g0 M 0 (some (M + 1)) := ⟨_, rfl⟩
  have hl1 : Lay g1 := by rw [eg1]; exact hlg.uR (fun q hq z => by have := rTab_lt q hq; omega)
  have k1 : ∀ a, hK g1 a = hK g0 a := fun a => by rw [eg1]; rfl
  have rM : hR g1 M 0 = some (M + 1) := by rw [eg1]; exact if_pos ⟨rfl, rfl⟩
  have t2 : ∀ g, Lay g → rI 1 g 1 (2 : Int32) = some 3 := fun g hg => tGT_at hg (w := 2) (by decide)
  have t3 : ∀ g, Lay g → rI 1 g 1 (3 : Int32) = some 3 := fun g hg => tGT_at hg (w := 3) (by decide)
  have wr : ∀ (g : AH) (j : Nat) (v : Int32), hK g (M + 1) = (1, 8) → j < 8 → wI g (M + 1) (nI j) v = some (uI g (M + 1) j v) := fun g j v hk hj => wI_n (by omega) hk hj (by decide)
  have gr : ∀ (g : AH), hK g M = (104, 0) → gR 4 g M 0 = some (hR g M 0) := fun g hk => gR_n (c := 4) hk
  refine ⟨uI (uI (uI (uI (uI (uI g1 (M + 1) 2 3) (M + 1) 3 3) (M + 1) 4 (-1)) (M + 1) 5 x) (M + 1) 6 y) (M + 1) 7 z, ?_, ?_, ?_, ?_, ?_, ?_, ?_, ?_, ?_, ?_, ?_, ?_, ?_, ?_⟩
  · rw [← hM0]
    unfold f_He_init
    rw [show (8 : Int32) = nI 8 from rfl, nAr_n (by decide), Option.bind_some, ← eg0, hm0, pR_n (c := 4) kM, Option.bind_some, ← eg1]
    have k1M : hK g1 M = (104, 0) := by rw [k1]; exact kM
    have k1M1 : hK g1 (M + 1) = (1, 8) := by rw [k1]; exact kM1
    have w2 : ∀ (g : AH) (v : Int32), hK g (M + 1) = (1, 8) → wI g (M + 1) 2 v = some (uI g (M + 1) 2 v) := fun g v hk => wr g 2 v hk (by decide)
    have w3 : ∀ (g : AH) (v : Int32), hK g (M + 1) = (1, 8) → wI g (M + 1) 3 v = some (uI g (M + 1) 3 v) := fun g v hk => wr g 3 v hk (by decide)
    have w4 : ∀ (g : AH) (v : Int32), hK g (M + 1) = (1, 8) → wI g (M + 1) 4 v = some (uI g (M + 1) 4 v) := fun g v hk => wr g 4 v hk (by decide)
    have w5 : ∀ (g : AH) (v : Int32), hK g (M + 1) = (1, 8) → wI g (M + 1) 5 v = some (uI g (M + 1) 5 v) := fun g v hk => wr g 5 v hk (by decide)
    have w6 : ∀ (g : AH) (v : Int32), hK g (M + 1) = (1, 8) → wI g (M + 1) 6 v = some (uI g (M + 1) 6 v) := fun g v hk => wr g 6 v hk (by decide)
    have w7 : ∀ (g : AH) (v : Int32), hK g (M + 1) = (1, 8) → wI g (M + 1) 7 v = some (uI g (M + 1) 7 v) := fun g v hk => wr g 7 v hk (by decide)
    have hl2 : Lay (uI g1 (M + 1) 2 3) := hl1.uI (by omega)
    simp [gr, HS, k1M, k1M1, rM, t2 g1 hl1, t3 _ hl2, w2, w3, w4, w5, w6, w7]
  · refine ⟨?_, ?_, fun a ha => ?_⟩
    · show hM g1 = _; rw [eg1]; show hM g0 = _; rw [eg0]; show hM (nO 4 h) + 1 = _; omega
    · show hZ g1 = _; rw [eg1]; show hZ g0 = _; rw [eg0]; show hZ h + znf 4 + 8 = _; rfl
    · have e1 : a ≠ M + 1 := by omega
      have e2 : a ≠ M := by omega
      have e3 : a ≠ hM (nO 4 h) := by omega
      have e4 : a ≠ hM h := by omega
      refine ⟨?_, fun k => ?_, fun k => ?_, fun k => ?_⟩
      · show hK g1 a = _; rw [k1, eg0, K_old e3]; exact K_old e4
      · simp only [HS, e1, false_and, if_false]
        rw [eg1]; show hI g0 a k = _; rw [eg0, I_old e3]; exact I_old e4
      · show hJ g1 a k = _; rw [eg1]; show hJ g0 a k = _; rw [eg0, J_old e3]; exact J_old e4
      · show hR g1 a k = _; rw [eg1]; show (if a = M ∧ k = 0 then _ else hR g0 a k) = _
        rw [if_neg (fun z => e2 z.1), eg0, R_old e3]; exact R_old e4
  · rw [← hM0]; show hK g1 M = _; rw [k1]; exact kM
  · rw [← hM0]; show hK g1 (M + 1) = _; rw [k1]; exact kM1
  · rw [← hM0]; exact rM
  · rw [← hM0]; simp only [HS]; simp; rw [eg1]; show hI g0 (M + 1) 0 = 0; rw [eg0, ← hm0]; exact I_new
  · rw [← hM0]; simp only [HS]; simp; rw [eg1]; show hI g0 (M + 1) 1 = 0; rw [eg0, ← hm0]; exact I_new
  · rw [← hM0]; simp [HS]
  · rw [← hM0]; simp [HS]
  · rw [← hM0]; simp [HS]
  · rw [← hM0]; simp [HS]
  · rw [← hM0]; simp [HS]
  · rw [← hM0]; simp [HS]
  · exact (((((hl1.uI (by omega)).uI (by omega)).uI (by omega)).uI (by omega)).uI (by omega)).uI (by omega)
theorem HP.keep {h' : AH} {hn hn' s a : Nat} (r : HP h hn s a) (hm : hM h ≤ hM h') (k1 : hK h' a = hK h a) (k2 : hK h' (a + 1) = hK h (a + 1)) (k3 : hR h' a 0 = hR h a 0) (k4 : ∀ w, hI h' (a + 1) w = hI h (a + 1) w) (k5 : ∀ w, w < 5 → hI h' 209 (5 * s + w) = hI h 209 (5 * s + w)) (k6 : hI h' 206 s = hI h 206 s) (k7 : hI h' 207 s = hI h 207 s) (k8 : hI h' 208 s = hI h 208 s) (hh : hn ≤ hn') : HP h' hn' s a := by
  obtain ⟨r1, r2, r3, r4, r5, r6, r7, r8, r9, q1, q2, q3, q4, q5, q6, q7, q8⟩ := r
  have k50 := k5 0 (by decide)
  simp only [Nat.add_zero] at k50
  refine ⟨r1, by omega, by rw [k1]; exact r3, by rw [k2]; exact r4, by rw [k3]; exact r5, fun w hw => by rw [k4, k5 w hw]; exact r6 w hw, by rw [k4, k6]; exact r7, by rw [k4, k7]; exact r8, by rw [k4, k8]; exact r9, by rw [k50]; exact q1, by rw [k5 1 (by decide)]; exact q2, by rw [k5 2 (by decide)]; exact q3, by rw [k5 3 (by decide)]; exact q4, ?_, by rw [k6]; exact q6, by rw [k7]; exact q7, by rw [k8]; exact q8⟩
  rw [k5 4 (by decide)]
  rcases q5 with q | ⟨v, hv, q⟩
  · exact Or.inl q
  · exact Or.inr ⟨v, by omega, q⟩
theorem isFacts_C (x : Int32) : f_C_isFacts h x = some (if x < 0 then 0 else if x < nI 4096 then 1 else 0) := by
  have e : ((4095 : Int32) < x) ↔ ¬ x < nI 4096 := by
    rw [Int32.lt_iff_toInt_lt, Int32.lt_iff_toInt_lt, nI_toInt (by decide)]
    have : (4095 : Int32).toInt = 4095 := rfl
    omega
  simp only [f_C_isFacts, e]
  by_cases q : x < 0
  · simp [q]
  · by_cases q2 : x < nI 4096 <;> simp [q, q2]
theorem isSet_M (x : Int32) : f_M_isSet h x = some (if x < 0 then 0 else if x < nI 4096 then 1 else 0) := by
  simp only [f_M_isSet, show (4095 : Int32) = nI 4095 from rfl, in_Mk h x (show 4095 < 2 ^ 30 by decide), Option.bind_some]
  by_cases q : x < 0
  · simp [q]
  · by_cases q2 : x < nI 4096 <;> simp [q, q2]
/-- what helper() leaves alone -/
def SHelp (hn a k : Nat) : Prop := ¬ ((a = 107 ∧ k = 1) ∨ (a = 108 ∧ k = hn) ∨ (a = 201 ∧ k = 9) ∨ ((206 ≤ a ∧ a ≤ 208) ∧ k = hn) ∨ (a = 209 ∧ 5 * hn ≤ k))
theorem o_helper {hn : Nat} {ha : Nat → Nat} (hl : Lay h) (rh : RHelp h hn ha) (x y z : Int32) : ∃ r h1 h2, f_C_helper h 4 x y z = some (r, h1) ∧ f_M_helper h1 201 x y z = some (r, h2) ∧ (h2 = h ∨ (hn < 8 ∧ RHelp h2 (hn + 1) (fun s => if s = hn then hM h else ha s) ∧ hM h2 = hM h + 2 ∧ hZ h2 = hZ h + 9 ∧ Lay h2 ∧ Ag (SHelp hn) h h2)) := by
  have h8 := rh.1
  have h9 := hl.2.2.2.2.2.2
  have ref : ∀ (v : Int32), ∃ r h1 h2, some (v, h) = some (r, h1) ∧ some (v, h1) = some (r, h2) ∧ (h2 = h ∨ (hn < 8 ∧ RHelp h2 (hn + 1) (fun s => if s = hn then hM h else ha s) ∧ hM h2 = hM h + 2 ∧ hZ h2 = hZ h + 9 ∧ Lay h2 ∧ Ag (SHelp hn) h h2)) := fun v => ⟨v, h, h, rfl, rfl, Or.inl rfl⟩
  have bad : (∃ u : Int32, (u = x ∨ u = y ∨ u = z) ∧ ¬ ∃ n, n < 4096 ∧ u = nI n) → f_C_helper h 4 x y z = some (-102, h) ∧ f_M_helper h 201 x y z = some (-102, h) := by
    intro ⟨u, hu, hb⟩
    have e0 : ∀ w : Int32, ((if w < 0 then (0 : Int32) else if w < nI 4096 then 1 else 0) = 0) ∨ ∃ n, n < 4096 ∧ w = nI n := by
      intro w
      rcases ix_cases w (show 4096 < 2 ^ 31 by decide) with q | q | ⟨q1, q2⟩
      · exact Or.inr q
      · exact Or.inl (by rw [if_pos q])
      · exact Or.inl (by rw [if_neg q1, if_neg q2])
    simp only [f_C_helper, f_M_helper, isFacts_C, isSet_M, Option.bind_some]
    rcases e0 x with q | q
    · rw [if_pos q, if_pos q]; exact ⟨rfl, rfl⟩
    · obtain ⟨n, n1, rfl⟩ := q
      simp only [nI_n0 n (by omega), nI_lt n1 (by decide), if_true, if_false, show ¬ ((1 : Int32) = 0) by decide]
      rcases e0 y with q | q
      · rw [if_pos q, if_pos q]; exact ⟨rfl, rfl⟩
      · obtain ⟨n', n2, rfl⟩ := q
        simp only [nI_n0 n' (by omega), nI_lt n2 (by decide), if_true, if_false, show ¬ ((1 : Int32) = 0) by decide]
        rcases e0 z with q | q
        · rw [if_pos q, if_pos q]; exact ⟨rfl, rfl⟩
        · rcases hu with rfl | rfl | rfl
          · exact absurd ⟨n, n1, rfl⟩ hb
          · exact absurd ⟨n', n2, rfl⟩ hb
          · exact absurd q hb
  by_cases hb : ∃ u : Int32, (u = x ∨ u = y ∨ u = z) ∧ ¬ ∃ n, n < 4096 ∧ u = nI n
  · obtain ⟨b1, b2⟩ := bad hb
    exact ⟨-102, h, h, b1, b2, Or.inl rfl⟩
  · have gx : ∃ n, n < 4096 ∧ x = nI n := Classical.byContradiction (fun q => hb ⟨x, Or.inl rfl, q⟩)
    have gy : ∃ n, n < 4096 ∧ y = nI n := Classical.byContradiction (fun q => hb ⟨y, Or.inr (Or.inl rfl), q⟩)
    have gz : ∃ n, n < 4096 ∧ z = nI n := Classical.byContradiction (fun q => hb ⟨z, Or.inr (Or.inr rfl), q⟩)
    have one : ∀ w : Int32, (∃ n, n < 4096 ∧ w = nI n) → (if w < 0 then (0 : Int32) else if w < nI 4096 then 1 else 0) = 1 := by
      intro w ⟨n, n1, n2⟩
      rw [n2, if_neg (nI_n0 n (by omega)), if_pos (nI_lt n1 (by decide))]
    by_cases hf : hn = 8
    · subst hf
      refine ⟨-104, h, h, ?_, ?_, Or.inl rfl⟩
      · simp [f_C_helper, isFacts_C, one x gx, one y gy, one z gz, gR_n (kk4 hl), LR hl, gI_n (c := 8) (kk107 hl), rh.2.1, show ¬ nI 8 < 8 by decide]
      · simp [f_M_helper, isSet_M, one x gx, one y gy, one z gz, gI_n (kk201 hl), rh.2.2.1, show nI 8 = 8 from rfl]
    · obtain ⟨g, eg, ⟨gm, gz', go⟩, c1, c2, c3, i0, i1, i2, i3, i4, i5, i6, i7, hlg⟩ := He_ok hl x y z
      have q8 : nI hn < 8 := nI_lt (b := 8) (by omega) (by decide)
      have q8' : ¬ nI hn = 8 := fun q => hf (nI_inj (b := 8) (by omega) (by decide) q)
      have g107 : hI g 107 1 = nI hn := by rw [(go 107 (by omega)).2.1]; exact rh.2.1
      obtain ⟨a1, ea1⟩ : ∃ a1, a1 = uR g 108 hn (some (hM h)) := ⟨_, rfl⟩
      obtain ⟨a2, ea2⟩ : ∃ a2, a2 = uI a1 107 1 (nI (hn + 1)) := ⟨_, rfl⟩
      have l1 : Lay a1 := by rw [ea1]; exact hlg.uR (fun q hq z => rTab_108 q hq z.1)
      have l2 : Lay a2 := by rw [ea2]; exact l1.uI (by decide)
      have a107 : hI a1 107 1 = nI hn := by rw [ea1]; exact g107
      have eC : f_C_helper h 4 x y z = some (nI hn, a2) := by
        have e7 : hI a2 107 1 = nI (hn + 1) := by rw [ea2]; exact hI_eq
        have ew : wR 4 g 108 (nI hn) (some (hM h)) = some a1 := by rw [ea1]; exact wR_n (c := 4) (kk108 hlg) (by omega) (by decide) c1
        have ep : pI 8 a1 107 1 (nI (hn + 1)) = some a2 := by rw [ea2]; exact pI_n (c := 8) (kk107 l1)
        simp [f_C_helper, isFacts_C, one x gx, one y gy, one z gz, gR_n (kk4 hl), LR hl, gI_n (c := 8) (kk107 hl), rh.2.1, q8, eg, cv_n (c := 8) (kk107 hlg), f_Ro_addHelper, gI_n (c := 8) (kk107 hlg), g107, gR_n (c := 8) (kk107 hlg), LR hlg, ew, gI_n (c := 8) (kk107 l1), a107, nI_1, ep, gI_n (c := 8) (kk107 l2), e7, nI_pred, bd2]
      have b9 : hI a2 201 9 = nI hn := by rw [ea2, hI_ne (by decide), ea1]; show hI g 201 9 = _; rw [(go 201 (by omega)).2.1]; exact rh.2.2.1
      obtain ⟨m1, em1⟩ : ∃ m1, m1 = uI a2 206 hn x := ⟨_, rfl⟩
      obtain ⟨m2, em2⟩ : ∃ m2, m2 = uI m1 207 hn y := ⟨_, rfl⟩
      obtain ⟨m3, em3⟩ : ∃ m3, m3 = uI m2 208 hn z := ⟨_, rfl⟩
      obtain ⟨m4, em4⟩ : ∃ m4, m4 = uI m3 209 (5 * hn) 0 := ⟨_, rfl⟩
      obtain ⟨m5, em5⟩ : ∃ m5, m5 = uI m4 209 (5 * hn + 1) 0 := ⟨_, rfl⟩
      obtain ⟨m6, em6⟩ : ∃ m6, m6 = uI m5 209 (5 * hn + 2) 3 := ⟨_, rfl⟩
      obtain ⟨m7, em7⟩ : ∃ m7, m7 = uI m6 209 (5 * hn + 3) 3 := ⟨_, rfl⟩
      obtain ⟨m8, em8⟩ : ∃ m8, m8 = uI m7 209 (5 * hn + 4) (-1) := ⟨_, rfl⟩
      obtain ⟨m9, em9⟩ : ∃ m9, m9 = uI m8 201 9 (nI (hn + 1)) := ⟨_, rfl⟩
      have lm1 : Lay m1 := by rw [em1]; exact l2.uI (by decide)
      have lm2 : Lay m2 := by rw [em2]; exact lm1.uI (by decide)
      have lm3 : Lay m3 := by rw [em3]; exact lm2.uI (by decide)
      have lm4 : Lay m4 := by rw [em4]; exact lm3.uI (by decide)
      have lm5 : Lay m5 := by rw [em5]; exact lm4.uI (by decide)
      have lm6 : Lay m6 := by rw [em6]; exact lm5.uI (by decide)
      have lm7 : Lay m7 := by rw [em7]; exact lm6.uI (by decide)
      have lm8 : Lay m8 := by rw [em8]; exact lm7.uI (by decide)
      have lm9 : Lay m9 := by rw [em9]; exact lm8.uI (by decide)
      have n1 : hI m1 201 9 = nI hn := by rw [em1, hI_ne (by simp)]; exact b9
      have n2 : hI m2 201 9 = nI hn := by rw [em2, hI_ne (by simp)]; exact n1
      have n3 : hI m3 201 9 = nI hn := by rw [em3, hI_ne (by simp)]; exact n2
      have n4 : hI m4 201 9 = nI hn := by rw [em4, hI_ne (by simp)]; exact n3
      have n5 : hI m5 201 9 = nI hn := by rw [em5, hI_ne (by simp)]; exact n4
      have n6 : hI m6 201 9 = nI hn := by rw [em6, hI_ne (by simp)]; exact n5
      have n7 : hI m7 201 9 = nI hn := by rw [em7, hI_ne (by simp)]; exact n6
      have n8 : hI m8 201 9 = nI hn := by rw [em8, hI_ne (by simp)]; exact n7
      have n9 : hI m9 201 9 = nI (hn + 1) := by rw [em9]; exact hI_eq
      have w1 : wI a2 206 (nI hn) x = some m1 := by rw [em1]; exact wI_n (by decide) (kk206 l2) (by omega) (by decide)
      have w2 : wI m1 207 (nI hn) y = some m2 := by rw [em2]; exact wI_n (by decide) (kk207 lm1) (by omega) (by decide)
      have w3 : wI m2 208 (nI hn) z = some m3 := by rw [em3]; exact wI_n (by decide) (kk208 lm2) (by omega) (by decide)
      have f5 : (5 : Int32) * nI hn = nI (5 * hn) := pk_mul 5 hn
      have w4 : wI m3 209 (nI (5 * hn)) 0 = some m4 := by rw [em4]; exact wI_n (by decide) (kk209 lm3) (by omega) (by decide)
      have w5 : wI m4 209 (nI (5 * hn) + 1) 0 = some m5 := by rw [em5, show (1 : Int32) = nI 1 from rfl, nI_add]; exact wI_n (by decide) (kk209 lm4) (by omega) (by decide)
      have w6 : wI m5 209 (nI (5 * hn) + 2) 3 = some m6 := by rw [em6, show (2 : Int32) = nI 2 from rfl, nI_add]; exact wI_n (by decide) (kk209 lm5) (by omega) (by decide)
      have w7 : wI m6 209 (nI (5 * hn) + 3) 3 = some m7 := by
        rw [em7]
        have : nI (5 * hn) + 3 = nI (5 * hn + 3) := nI_add (5 * hn) 3
        rw [this]; exact wI_n (by decide) (kk209 lm6) (by omega) (by decide)
      have w8 : wI m7 209 (nI (5 * hn) + 4) (-1) = some m8 := by rw [em8, show (4 : Int32) = nI 4 from rfl, nI_add]; exact wI_n (by decide) (kk209 lm7) (by omega) (by decide)
      have w9 : pI 12 m8 201 9 (nI hn + 1) = some m9 := by rw [em9, nI_1]; exact pI_n (kk201 lm8)
      have eM : f_M_helper a2 201 x y z = some (nI hn, m9) := by
        simp [f_M_helper, isSet_M, one x gx, one y gy, one z gz, gI_n (kk201 l2), b9, q8', gR_n (kk201 l2), LR l2, w1, gR_n (kk201 lm1), LR lm1, gI_n (kk201 lm1), n1, w2, gR_n (kk201 lm2), LR lm2, gI_n (kk201 lm2), n2, w3, gR_n (kk201 lm3), LR lm3, gI_n (kk201 lm3), n3, f5, w4, gR_n (kk201 lm4), LR lm4, gI_n (kk201 lm4), n4, w5, gR_n (kk201 lm5), LR lm5, gI_n (kk201 lm5), n5, w6, gR_n (kk201 lm6), LR lm6, gI_n (kk201 lm6), n6, w7, gR_n (kk201 lm7), LR lm7, gI_n (kk201 lm7), n7, w8, gI_n (kk201 lm8), n8, w9, gI_n (kk201 lm9), n9, nI_pred]
      have xM : hM m9 = hM h + 2 := by simp only [em9, em8, em7, em6, em5, em4, em3, em2, em1, ea2, ea1, HS]; exact gm
      have xZ : hZ m9 = hZ h + 9 := by simp only [em9, em8, em7, em6, em5, em4, em3, em2, em1, ea2, ea1, HS]; exact gz'
      have xK : ∀ a, hK m9 a = hK g a := fun a => by simp only [em9, em8, em7, em6, em5, em4, em3, em2, em1, ea2, ea1, HS]
      have xJ : ∀ a k, hJ m9 a k = hJ g a k := fun a k => by simp only [em9, em8, em7, em6, em5, em4, em3, em2, em1, ea2, ea1, HS]
      have xR : ∀ a k, hR m9 a k = if a = 108 ∧ k = hn then some (hM h) else hR g a k := fun a k => by simp only [em9, em8, em7, em6, em5, em4, em3, em2, em1, ea2, ea1, HS]
      have xI : ∀ a k, ¬ (a = 201 ∧ k = 9) → ¬ (a = 209 ∧ 5 * hn ≤ k ∧ k < 5 * hn + 5) → ¬ ((206 ≤ a ∧ a ≤ 208) ∧ k = hn) → ¬ (a = 107 ∧ k = 1) → hI m9 a k = hI g a k := by
        intro a k b1 b2 b3 b4
        rw [em9, hI_ne (by omega), em8, hI_ne (by omega), em7, hI_ne (by omega), em6, hI_ne (by omega), em5, hI_ne (by omega), em4, hI_ne (by omega), em3, hI_ne (by omega), em2, hI_ne (by omega), em1, hI_ne (by omega), ea2, hI_ne (by omega), ea1, HS.2.2.1]
      have ag : Ag (SHelp hn) h m9 := by
        refine ⟨by omega, fun a ha' => by rw [xK]; exact (go a ha').1, fun a k ha' hs => ⟨?_, ?_, ?_⟩⟩
        · unfold SHelp at hs
          rw [xI a k (by omega) (by omega) (by omega) (by omega)]; exact (go a ha').2.1 k
        · rw [xJ]; exact (go a ha').2.2.1 k
        · unfold SHelp at hs
          rw [xR, if_neg (by omega)]; exact (go a ha').2.2.2 k
      have v1 : hI m9 206 hn = x := by rw [em9, hI_ne (by simp), em8, hI_ne (by simp), em7, hI_ne (by simp), em6, hI_ne (by simp), em5, hI_ne (by simp), em4, hI_ne (by simp), em3, hI_ne (by simp), em2, hI_ne (by simp), em1, hI_eq]
      have v2 : hI m9 207 hn = y := by rw [em9, hI_ne (by simp), em8, hI_ne (by simp), em7, hI_ne (by simp), em6, hI_ne (by simp), em5, hI_ne (by simp), em4, hI_ne (by simp), em3, hI_ne (by simp), em2, hI_eq]
      have v3 : hI m9 208 hn = z := by rw [em9, hI_ne (by simp), em8, hI_ne (by simp), em7, hI_ne (by simp), em6, hI_ne (by simp), em5, hI_ne (by simp), em4, hI_ne (by simp), em3, hI_eq]
      have t0 : hI m9 209 (5 * hn) = 0 := by rw [em9, hI_ne (by simp), em8, hI_ne (by simp), em7, hI_ne (by simp), em6, hI_ne (by simp), em5, hI_ne (by simp), em4, hI_eq]
      have t1 : hI m9 209 (5 * hn + 1) = 0 := by rw [em9, hI_ne (by simp), em8, hI_ne (by simp), em7, hI_ne (by simp), em6, hI_ne (by simp), em5, hI_eq]
      have t2 : hI m9 209 (5 * hn + 2) = 3 := by rw [em9, hI_ne (by simp), em8, hI_ne (by simp), em7, hI_ne (by simp), em6, hI_eq]
      have t3 : hI m9 209 (5 * hn + 3) = 3 := by rw [em9, hI_ne (by simp), em8, hI_ne (by simp), em7, hI_eq]
      have t4 : hI m9 209 (5 * hn + 4) = -1 := by rw [em9, hI_ne (by simp), em8, hI_eq]
      have yI : ∀ k, hI m9 (hM h + 1) k = hI g (hM h + 1) k := fun k => xI _ k (by omega) (by omega) (by omega) (by omega)
      refine ⟨nI hn, a2, m9, eC, eM, Or.inr ⟨by omega, ⟨by omega, ?_, n9, fun s hs => ?_⟩, xM, xZ, lm9, ag⟩⟩
      · rw [em9, hI_ne (by decide), em8, hI_ne (by simp), em7, hI_ne (by simp), em6, hI_ne (by simp), em5, hI_ne (by simp), em4, hI_ne (by simp), em3, hI_ne (by simp), em2, hI_ne (by simp), em1, hI_ne (by simp), ea2, hI_eq]
      · show hR m9 108 s = some (if s = hn then hM h else ha s) ∧ HP m9 (hn + 1) s (if s = hn then hM h else ha s)
        by_cases es : s = hn
        · subst es
          rw [if_pos rfl]
          refine ⟨by rw [xR, if_pos ⟨rfl, rfl⟩], h9, by omega, by rw [xK]; exact c1, by rw [xK]; exact c2, by rw [xR, if_neg (by omega)]; exact c3, fun w hw => ?_, by rw [yI, i5, v1], by rw [yI, i6, v2], by rw [yI, i7, v3], ⟨0, by omega, t0⟩, ⟨0, by omega, t1⟩, ⟨3, by omega, by omega, t2⟩, ⟨3, by omega, t3⟩, Or.inl t4, by rw [v1]; exact gx, by rw [v2]; exact gy, by rw [v3]; exact gz⟩
          rw [yI]
          rcases (show w = 0 ∨ w = 1 ∨ w = 2 ∨ w = 3 ∨ w = 4 by omega) with rfl | rfl | rfl | rfl | rfl
          · rw [i0]; exact t0.symm
          · rw [i1, t1]
          · rw [i2, t2]
          · rw [i3, t3]
          · rw [i4, t4]
        · rw [if_neg es]
          have hs' : s < hn := by omega
          obtain ⟨o1, o2⟩ := rh.2.2.2 s hs'
          have p1 := o2.1
          have p2 := o2.2.1
          refine ⟨by rw [xR, if_neg (by omega), (go 108 (by omega)).2.2.2]; exact o1, HP.keep o2 (by omega) (by rw [xK]; exact (go _ (by omega)).1) (by rw [xK]; exact (go _ (by omega)).1) (by rw [xR, if_neg (by omega)]; exact (go _ (by omega)).2.2.2 0) (fun w => by rw [xI _ _ (by omega) (by omega) (by omega) (by omega)]; exact (go _ (by omega)).2.1 w) (fun w hw => by rw [xI _ _ (by omega) (by omega) (by omega) (by omega)]; exact (go 209 (by omega)).2.1 _) (by rw [xI _ _ (by omega) (by omega) (by omega) (by omega)]; exact (go 206 (by omega)).2.1 _) (by rw [xI _ _ (by omega) (by omega) (by omega) (by omega)]; exact (go 207 (by omega)).2.1 _) (by rw [xI _ _ (by omega) (by omega) (by omega) (by omega)]; exact (go 208 (by omega)).2.1 _) (by omega)⟩
end NEW
