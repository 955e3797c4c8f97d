/-! THE START: both objects made. The heap that the two constructors leave, from a start without a script, is a closed term: the kernel reads it off; what lies at 3 (the script) is nobody's business there. -/
def hzero : AH := h00 0 (fun _ => 0)
def hone : Option AH := (f_C_init (nO 0 hzero) 4).bind fun h => f_M_init (nO 12 h) (hM h)
/-- two heaps that differ at 3 alone -/
def Sim (L : Nat) (xs : Nat → Int32) (h h' : AH) : Prop := hM h = hM h' ∧ hZ h = hZ h' ∧ 4 ≤ hM h ∧ (∀ a, a ≠ 3 → hK h a = hK h' a ∧ (∀ k, hI h a k = hI h' a k) ∧ (∀ k, hJ h a k = hJ h' a k) ∧ (∀ k, hR h a k = hR h' a k)) ∧ (∀ a k, a ≠ 3 → hR h a k ≠ some 3) ∧ hK h' 3 = (1, L) ∧ ∀ k, hI h' 3 k = xs k
section INI
variable {L : Nat} {xs : Nat → Int32}
def RO {α : Type} (ρ : α → α → Prop) (o o' : Option α) : Prop := ∀ x, o = some x → ∃ x', o' = some x' ∧ ρ x x'
theorem ROb {α β : Type} {ρ : α → α → Prop} {τ : β → β → Prop} {o o' : Option α} {f f' : α → Option β} (h : RO ρ o o') (k : ∀ x x', ρ x x' → RO τ (f x) (f' x')) : RO τ (o.bind f) (o'.bind f') := by
  intro y hy
  obtain ⟨x, e1, e2⟩ := bd1_s hy
  obtain ⟨x', e3, e4⟩ := h x e1
  obtain ⟨y', e5, e6⟩ := k x x' e4 y e2
  exact ⟨y', by rw [e3]; exact e5, e6⟩
theorem RO_some {α : Type} {ρ : α → α → Prop} {x x' : α} (h : ρ x x') : RO ρ (some x) (some x') := fun y hy => ⟨x', rfl, by cases hy; exact h⟩
theorem RO_ite {α : Type} {ρ : α → α → Prop} {c : Prop} [Decidable c] {a a' b b' : Option α} (h1 : RO ρ a a') (h2 : RO ρ b b') : RO ρ (if c then a else b) (if c then a' else b') := by
  by_cases q : c
  · rw [if_pos q, if_pos q]; exact h1
  · rw [if_neg q, if_neg q]; exact h2
theorem Sim.grow {h h' : AH} (s : Sim L xs h h') (q : Nat × Nat) (n : Nat) : Sim L xs (uN' h q n) (uN' h' q n) := by
  obtain ⟨e1, e2, e3, e4, e5, e6, e7⟩ := s
  have e1 : h.1 = h'.1 := e1
  have e3 : 4 ≤ h.1 := e3
  refine ⟨by show h.1 + 1 = h'.1 + 1; rw [e1], by show hZ h + n = hZ h' + n; rw [e2], by show 4 ≤ h.1 + 1; omega, fun a ha => ?_, fun a k ha => ?_, by show (if 3 = h'.1 then q else hK h' 3) = _; rw [if_neg (by omega)]; exact e6, fun k => by show (if 3 = h'.1 then 0 else hI h' 3 k) = _; rw [if_neg (by omega)]; exact e7 k⟩
  · obtain ⟨f1, f2, f3, f4⟩ := e4 a ha
    refine ⟨?_, fun k => ?_, fun k => ?_, fun k => ?_⟩
    · show (if a = h.1 then q else hK h a) = (if a = h'.1 then q else hK h' a); rw [e1, f1]
    · show (if a = h.1 then 0 else hI h a k) = (if a = h'.1 then 0 else hI h' a k); rw [e1, f2]
    · show (if a = h.1 then 0 else hJ h a k) = (if a = h'.1 then 0 else hJ h' a k); rw [e1, f3]
    · show (if a = h.1 then none else hR h a k) = (if a = h'.1 then none else hR h' a k); rw [e1, f4]
  · show (if a = h.1 then none else hR h a k) ≠ some 3
    split
    · intro q; cases q
    · exact e5 a k ha
theorem s_nO {h h' : AH} (s : Sim L xs h h') (c : Nat) : Sim L xs (nO c h) (nO c h') := s.grow _ _
theorem s_nAr {h h' : AH} {d : Nat} {n : Int32} (s : Sim L xs h h') : RO (Sim L xs) (nAr d h n) (nAr d h' n) := by
  intro x hx
  unfold nAr at hx ⊢
  split at hx
  · rename_i q
    cases hx
    exact ⟨_, by rw [if_pos q], s.grow _ _⟩
  · cases hx
theorem s_pR {h h' : AH} {c a k : Nat} {v : Option Nat} (s : Sim L xs h h') (ha : a ≠ 3) (hv : v ≠ some 3) : RO (Sim L xs) (pR c h a k v) (pR c h' a k v) := by
  intro x hx
  obtain ⟨e1, e2, e3, e4, e5, e6, e7⟩ := s
  unfold pR at hx ⊢
  rw [← (e4 a ha).1]
  split at hx
  · rename_i q
    cases hx
    refine ⟨uR h' a k v, by rw [if_pos q], e1, e2, e3, fun b hb => ⟨(e4 b hb).1, (e4 b hb).2.1, (e4 b hb).2.2.1, fun j => ?_⟩, fun b j hb => ?_, e6, e7⟩
    · show (if b = a ∧ j = k then v else hR h b j) = (if b = a ∧ j = k then v else hR h' b j); rw [(e4 b hb).2.2.2]
    · show (if b = a ∧ j = k then v else hR h b j) ≠ some 3
      split
      · exact hv
      · exact e5 b j hb
  · cases hx
theorem s_pI {h h' : AH} {c a k : Nat} {v : Int32} (s : Sim L xs h h') (ha : a ≠ 3) : RO (Sim L xs) (pI c h a k v) (pI c h' a k v) := by
  intro x hx
  obtain ⟨e1, e2, e3, e4, e5, e6, e7⟩ := s
  unfold pI at hx ⊢
  rw [← (e4 a ha).1]
  split at hx
  · rename_i q
    cases hx
    refine ⟨uI h' a k v, by rw [if_pos q], e1, e2, e3, fun b hb => ⟨(e4 b hb).1, fun j => ?_, (e4 b hb).2.2.1, (e4 b hb).2.2.2⟩, e5, e6, fun j => by show (if 3 = a ∧ j = k then v else hI h' 3 j) = _; rw [if_neg (fun q => ha q.1.symm)]; exact e7 j⟩
    show (if b = a ∧ j = k then v else hI h b j) = (if b = a ∧ j = k then v else hI h' b j); rw [(e4 b hb).2.1]
  · cases hx
theorem s_gR {h h' : AH} {c a k : Nat} (s : Sim L xs h h') (ha : a ≠ 3) : RO (fun r r' => r = r' ∧ r ≠ some 3) (gR c h a k) (gR c h' a k) := by
  intro x hx
  obtain ⟨e1, e2, e3, e4, e5, e6, e7⟩ := s
  unfold gR at hx ⊢
  rw [← (e4 a ha).1]
  split at hx
  · rename_i q
    cases hx
    exact ⟨_, by rw [if_pos q], (e4 a ha).2.2.2 k, e5 a k ha⟩
  · cases hx
theorem s_rR {h h' : AH} {c a : Nat} {i : Int32} (s : Sim L xs h h') (ha : a ≠ 3) : RO (fun r r' => r = r' ∧ r ≠ some 3) (rR c h a i) (rR c h' a i) := by
  intro x hx
  obtain ⟨e1, e2, e3, e4, e5, e6, e7⟩ := s
  unfold rR ix at hx ⊢
  rw [← (e4 a ha).1]
  split at hx
  · rename_i q
    cases hx
    exact ⟨_, by rw [if_pos q]; rfl, (e4 a ha).2.2.2 _, e5 a _ ha⟩
  · cases hx
theorem s_alen {h h' : AH} {d a : Nat} (s : Sim L xs h h') (ha : a ≠ 3) : RO (fun r r' => r = r') (alen d h a) (alen d h' a) := by
  intro x hx
  unfold alen at hx ⊢
  rw [← (s.2.2.2.1 a ha).1]
  exact ⟨x, hx, rfl⟩
theorem s_wR {h h' : AH} {c a : Nat} {i : Int32} {v : Nat} (s : Sim L xs h h') (ha : a ≠ 3) (hv : v ≠ 3) : RO (Sim L xs) (wR c h a i (some v)) (wR c h' a i (some v)) := by
  intro x hx
  obtain ⟨e1, e2, e3, e4, e5, e6, e7⟩ := s
  unfold wR ix at hx ⊢
  rw [← (e4 a ha).1]
  split at hx
  · rename_i q
    split at hx
    · rename_i q2
      cases hx
      refine ⟨uR h' a i.toNatClampNeg (some v), ?_, e1, e2, e3, fun b hb => ⟨(e4 b hb).1, (e4 b hb).2.1, (e4 b hb).2.2.1, fun j => ?_⟩, fun b j hb => ?_, e6, e7⟩
      · have q3 : ∀ x ∈ some v, hK h' x = (100 + c, 0) := fun x hx => by
          have := q x hx
          cases hx
          rw [← (e4 v hv).1]; exact this
        rw [if_pos q3, if_pos q2]; rfl
      · show (if b = a ∧ j = i.toNatClampNeg then some v else hR h b j) = (if b = a ∧ j = i.toNatClampNeg then some v else hR h' b j); rw [(e4 b hb).2.2.2]
      · show (if b = a ∧ j = i.toNatClampNeg then some v else hR h b j) ≠ some 3
        split
        · intro z; exact hv (Option.some.inj z)
        · exact e5 b j hb
    · cases hx
  · cases hx
theorem s_wJ {h h' : AH} {a : Nat} {i : Int32} {v : Int64} (s : Sim L xs h h') (ha : a ≠ 3) : RO (Sim L xs) (wJ h a i v) (wJ h' a i v) := by
  intro x hx
  obtain ⟨e1, e2, e3, e4, e5, e6, e7⟩ := s
  unfold wJ ix at hx ⊢
  rw [← (e4 a ha).1]
  split at hx
  · rename_i q
    split at hx
    · rename_i q2
      cases hx
      refine ⟨uJ h' a i.toNatClampNeg v, by rw [if_pos q, if_pos q2]; rfl, e1, e2, e3, fun b hb => ⟨(e4 b hb).1, (e4 b hb).2.1, fun j => ?_, (e4 b hb).2.2.2⟩, e5, e6, e7⟩
      show (if b = a ∧ j = i.toNatClampNeg then v else hJ h b j) = (if b = a ∧ j = i.toNatClampNeg then v else hJ h' b j); rw [(e4 b hb).2.2.1]
    · cases hx
  · cases hx
theorem s_cv {α : Type} {ρ : α → α → Prop} {h h' : AH} {c b : Nat} {o o' : Option α} (s : Sim L xs h h') (hb : b ≠ 3) (k : RO ρ o o') : RO ρ (cv c h b o) (cv c h' b o') := by
  unfold cv
  rw [← (s.2.2.2.1 b hb).1]
  exact RO_ite k (fun x hx => by cases hx)
theorem s_dr {α : Type} {ρ : α → α → Prop} {r r' : Option Nat} {f f' : Nat → Option α} (e : r = r' ∧ r ≠ some 3) (k : ∀ a, a ≠ 3 → RO ρ (f a) (f' a)) : RO ρ (r.bind f) (r'.bind f') := by
  obtain ⟨rfl, e⟩ := e
  cases r with
  | none => intro x hx; cases hx
  | some a => exact k a (fun q => e (by rw [q]))
theorem hM_3 {h h' : AH} (s : Sim L xs h h') : hM h ≠ 3 := by have := s.2.2.1; omega
theorem hM_s3 {h h' : AH} (s : Sim L xs h h') : some (hM h) ≠ some 3 := fun q => hM_3 s (Option.some.inj q)
theorem Sim.m {h h' : AH} (s : Sim L xs h h') : hM h' = hM h := s.1.symm
theorem s_Pa_init_L44 {o : Nat} (ho : o ≠ 3) : ∀ (n : Nat) (i : Int32) {h h_ : AH}, Sim L xs h h_ → RO (Sim L xs) (f_Pa_init_L44 o n i h) (f_Pa_init_L44 o n i h_) := by
  intro n
  induction n with
  | zero => intro i h h_ s_h x hx; cases hx
  | succ n ih =>
    intro z1 h h_ s_h
    rw [f_Pa_init_L44, f_Pa_init_L44]
    try rw [s_h.m]
    refine ROb (s_gR s_h ho) (fun r10 r10_ s_r10 => ?_)
    refine s_dr s_r10 (fun a11 n_a11 => ?_)
    refine ROb (s_alen s_h n_a11) (fun x12 x12_ s_x12 => ?_)
    subst s_x12
    refine RO_ite ?_ ?_
    · refine ROb (s_gR s_h ho) (fun r13 r13_ s_r13 => ?_)
      try rw [s_h.m]
      refine ROb (ρ := fun _ _ => True) (RO_some trivial) (fun u15 u15_ _ => ?_)
      refine s_dr s_r13 (fun a16 n_a16 => ?_)
      refine ROb (s_wR (s_nO s_h 5) n_a16 (hM_3 s_h)) (fun h17 h17_ s_h17 => ?_)
      exact ih _ s_h17
    · exact RO_some s_h
theorem s_Pa_init {h0 h0_ : AH} {o : Nat} (s_h0 : Sim L xs h0 h0_) (ho : o ≠ 3) : RO (Sim L xs) (f_Pa_init h0 o) (f_Pa_init h0_ o) := by
  unfold f_Pa_init
  refine ROb (s_nAr s_h0) (fun h1 h1_ s_h1 => ?_)
  try rw [s_h0.m]
  refine ROb (s_pR s_h1 ho (hM_s3 s_h0)) (fun h2 h2_ s_h2 => ?_)
  refine ROb (s_nAr s_h2) (fun h3 h3_ s_h3 => ?_)
  try rw [s_h2.m]
  refine ROb (s_pR s_h3 ho (hM_s3 s_h2)) (fun h4 h4_ s_h4 => ?_)
  refine ROb (s_nAr s_h4) (fun h5 h5_ s_h5 => ?_)
  try rw [s_h4.m]
  refine ROb (s_pR s_h5 ho (hM_s3 s_h4)) (fun h6 h6_ s_h6 => ?_)
  refine ROb (s_nAr s_h6) (fun h7 h7_ s_h7 => ?_)
  try rw [s_h6.m]
  refine ROb (s_pR s_h7 ho (hM_s3 s_h6)) (fun h8 h8_ s_h8 => ?_)
  refine ROb (s_pI s_h8 ho) (fun h9 h9_ s_h9 => ?_)
  exact s_Pa_init_L44 ho FU _ s_h9
theorem s_Wa_init {h0 h0_ : AH} {o : Nat} (s_h0 : Sim L xs h0 h0_) (ho : o ≠ 3) : RO (Sim L xs) (f_Wa_init h0 o) (f_Wa_init h0_ o) := by
  unfold f_Wa_init
  refine ROb (s_nAr s_h0) (fun h1 h1_ s_h1 => ?_)
  try rw [s_h0.m]
  refine ROb (s_pR s_h1 ho (hM_s3 s_h0)) (fun h2 h2_ s_h2 => ?_)
  refine ROb (s_nAr s_h2) (fun h3 h3_ s_h3 => ?_)
  try rw [s_h2.m]
  refine ROb (s_pR s_h3 ho (hM_s3 s_h2)) (fun h4 h4_ s_h4 => ?_)
  refine ROb (s_nAr s_h4) (fun h5 h5_ s_h5 => ?_)
  try rw [s_h4.m]
  refine ROb (s_pR s_h5 ho (hM_s3 s_h4)) (fun h6 h6_ s_h6 => ?_)
  refine ROb (s_nAr s_h6) (fun h7 h7_ s_h7 => ?_)
  try rw [s_h6.m]
  refine ROb (s_pR s_h7 ho (hM_s3 s_h6)) (fun h8 h8_ s_h8 => ?_)
  refine ROb (s_nAr s_h8) (fun h9 h9_ s_h9 => ?_)
  try rw [s_h8.m]
  refine ROb (s_pR s_h9 ho (hM_s3 s_h8)) (fun h10 h10_ s_h10 => ?_)
  exact RO_some s_h10
theorem s_Fi_init {h0 h0_ : AH} {o : Nat} (s_h0 : Sim L xs h0 h0_) (ho : o ≠ 3) : RO (Sim L xs) (f_Fi_init h0 o) (f_Fi_init h0_ o) := by
  unfold f_Fi_init
  refine ROb (s_nAr s_h0) (fun h1 h1_ s_h1 => ?_)
  try rw [s_h0.m]
  refine ROb (s_pR s_h1 ho (hM_s3 s_h0)) (fun h2 h2_ s_h2 => ?_)
  exact RO_some s_h2
theorem s_Ad_init {h0 h0_ : AH} {o : Nat} (s_h0 : Sim L xs h0 h0_) (ho : o ≠ 3) : RO (Sim L xs) (f_Ad_init h0 o) (f_Ad_init h0_ o) := by
  unfold f_Ad_init
  refine ROb (s_nAr s_h0) (fun h1 h1_ s_h1 => ?_)
  try rw [s_h0.m]
  refine ROb (s_pR s_h1 ho (hM_s3 s_h0)) (fun h2 h2_ s_h2 => ?_)
  refine ROb (s_nAr s_h2) (fun h3 h3_ s_h3 => ?_)
  try rw [s_h2.m]
  refine ROb (s_pR s_h3 ho (hM_s3 s_h2)) (fun h4 h4_ s_h4 => ?_)
  refine ROb (s_nAr s_h4) (fun h5 h5_ s_h5 => ?_)
  try rw [s_h4.m]
  refine ROb (s_pR s_h5 ho (hM_s3 s_h4)) (fun h6 h6_ s_h6 => ?_)
  refine ROb (s_nAr s_h6) (fun h7 h7_ s_h7 => ?_)
  try rw [s_h6.m]
  refine ROb (s_pR s_h7 ho (hM_s3 s_h6)) (fun h8 h8_ s_h8 => ?_)
  refine ROb (s_nAr s_h8) (fun h9 h9_ s_h9 => ?_)
  try rw [s_h8.m]
  refine ROb (s_pR s_h9 ho (hM_s3 s_h8)) (fun h10 h10_ s_h10 => ?_)
  refine ROb (s_nAr s_h10) (fun h11 h11_ s_h11 => ?_)
  try rw [s_h10.m]
  refine ROb (s_pR s_h11 ho (hM_s3 s_h10)) (fun h12 h12_ s_h12 => ?_)
  exact RO_some s_h12
theorem s_Go_init {h0 h0_ : AH} {o : Nat} (s_h0 : Sim L xs h0 h0_) (ho : o ≠ 3) : RO (Sim L xs) (f_Go_init h0 o) (f_Go_init h0_ o) := by
  unfold f_Go_init
  refine ROb (s_nAr s_h0) (fun h1 h1_ s_h1 => ?_)
  try rw [s_h0.m]
  refine ROb (s_pR s_h1 ho (hM_s3 s_h0)) (fun h2 h2_ s_h2 => ?_)
  refine ROb (s_nAr s_h2) (fun h3 h3_ s_h3 => ?_)
  try rw [s_h2.m]
  refine ROb (s_pR s_h3 ho (hM_s3 s_h2)) (fun h4 h4_ s_h4 => ?_)
  exact RO_some s_h4
theorem s_Ro_init_L64 {o : Nat} (ho : o ≠ 3) : ∀ (n : Nat) (i : Int32) {h h_ : AH}, Sim L xs h h_ → RO (Sim L xs) (f_Ro_init_L64 o n i h) (f_Ro_init_L64 o n i h_) := by
  intro n
  induction n with
  | zero => intro i h h_ s_h x hx; cases hx
  | succ n ih =>
    intro z1 h h_ s_h
    rw [f_Ro_init_L64, f_Ro_init_L64]
    try rw [s_h.m]
    refine ROb (s_gR s_h ho) (fun r16 r16_ s_r16 => ?_)
    refine s_dr s_r16 (fun a17 n_a17 => ?_)
    refine ROb (s_alen s_h n_a17) (fun x18 x18_ s_x18 => ?_)
    subst s_x18
    refine RO_ite ?_ ?_
    · refine ROb (s_gR s_h ho) (fun r19 r19_ s_r19 => ?_)
      try rw [s_h.m]
      refine ROb (s_Go_init (s_nO s_h 3) (hM_3 s_h)) (fun h21 h21_ s_h21 => ?_)
      refine s_dr s_r19 (fun a22 n_a22 => ?_)
      refine ROb (s_wR s_h21 n_a22 (hM_3 s_h)) (fun h23 h23_ s_h23 => ?_)
      exact ih _ s_h23
    · exact RO_some s_h
theorem s_Ro_init {h0 h0_ : AH} {o : Nat} (s_h0 : Sim L xs h0 h0_) (ho : o ≠ 3) : RO (Sim L xs) (f_Ro_init h0 o) (f_Ro_init h0_ o) := by
  unfold f_Ro_init
  refine ROb (s_nAr s_h0) (fun h1 h1_ s_h1 => ?_)
  try rw [s_h0.m]
  refine ROb (s_pR s_h1 ho (hM_s3 s_h0)) (fun h2 h2_ s_h2 => ?_)
  refine ROb (s_nAr s_h2) (fun h3 h3_ s_h3 => ?_)
  try rw [s_h2.m]
  refine ROb (s_pR s_h3 ho (hM_s3 s_h2)) (fun h4 h4_ s_h4 => ?_)
  refine ROb (s_nAr s_h4) (fun h5 h5_ s_h5 => ?_)
  try rw [s_h4.m]
  refine ROb (s_pR s_h5 ho (hM_s3 s_h4)) (fun h6 h6_ s_h6 => ?_)
  refine ROb (s_nAr s_h6) (fun h7 h7_ s_h7 => ?_)
  try rw [s_h6.m]
  refine ROb (s_pR s_h7 ho (hM_s3 s_h6)) (fun h8 h8_ s_h8 => ?_)
  try rw [s_h8.m]
  refine ROb (s_Go_init (s_nO s_h8 3) (hM_3 s_h8)) (fun h10 h10_ s_h10 => ?_)
  try rw [s_h8.m]
  refine ROb (s_pR s_h10 ho (hM_s3 s_h8)) (fun h11 h11_ s_h11 => ?_)
  refine ROb (s_nAr s_h11) (fun h12 h12_ s_h12 => ?_)
  try rw [s_h11.m]
  refine ROb (s_pR s_h12 ho (hM_s3 s_h11)) (fun h13 h13_ s_h13 => ?_)
  refine ROb (s_nAr s_h13) (fun h14 h14_ s_h14 => ?_)
  try rw [s_h13.m]
  refine ROb (s_pR s_h14 ho (hM_s3 s_h13)) (fun h15 h15_ s_h15 => ?_)
  exact s_Ro_init_L64 ho FU _ s_h15
theorem s_Wo_init {h0 h0_ : AH} {o : Nat} (s_h0 : Sim L xs h0 h0_) (ho : o ≠ 3) : RO (Sim L xs) (f_Wo_init h0 o) (f_Wo_init h0_ o) := by
  unfold f_Wo_init
  refine ROb (s_nAr s_h0) (fun h1 h1_ s_h1 => ?_)
  try rw [s_h0.m]
  refine ROb (s_pR s_h1 ho (hM_s3 s_h0)) (fun h2 h2_ s_h2 => ?_)
  exact RO_some s_h2
theorem s_Lo_init_L26 {o : Nat} (ho : o ≠ 3) : ∀ (n : Nat) (i : Int32) {h h_ : AH}, Sim L xs h h_ → RO (Sim L xs) (f_Lo_init_L26 o n i h) (f_Lo_init_L26 o n i h_) := by
  intro n
  induction n with
  | zero => intro i h h_ s_h x hx; cases hx
  | succ n ih =>
    intro z1 h h_ s_h
    rw [f_Lo_init_L26, f_Lo_init_L26]
    try rw [s_h.m]
    refine ROb (s_gR s_h ho) (fun r6 r6_ s_r6 => ?_)
    refine s_dr s_r6 (fun a7 n_a7 => ?_)
    refine ROb (s_alen s_h n_a7) (fun x8 x8_ s_x8 => ?_)
    subst s_x8
    refine RO_ite ?_ ?_
    · refine ROb (s_gR s_h ho) (fun r9 r9_ s_r9 => ?_)
      try rw [s_h.m]
      refine ROb (s_Wo_init (s_nO s_h 11) (hM_3 s_h)) (fun h11 h11_ s_h11 => ?_)
      refine s_dr s_r9 (fun a12 n_a12 => ?_)
      refine ROb (s_wR s_h11 n_a12 (hM_3 s_h)) (fun h13 h13_ s_h13 => ?_)
      exact ih _ s_h13
    · exact RO_some s_h
theorem s_Lo_init {h0 h0_ : AH} {o : Nat} (s_h0 : Sim L xs h0 h0_) (ho : o ≠ 3) : RO (Sim L xs) (f_Lo_init h0 o) (f_Lo_init h0_ o) := by
  unfold f_Lo_init
  refine ROb (s_nAr s_h0) (fun h1 h1_ s_h1 => ?_)
  try rw [s_h0.m]
  refine ROb (s_pR s_h1 ho (hM_s3 s_h0)) (fun h2 h2_ s_h2 => ?_)
  try rw [s_h2.m]
  refine ROb (s_Wo_init (s_nO s_h2 11) (hM_3 s_h2)) (fun h4 h4_ s_h4 => ?_)
  try rw [s_h2.m]
  refine ROb (s_pR s_h4 ho (hM_s3 s_h2)) (fun h5 h5_ s_h5 => ?_)
  exact s_Lo_init_L26 ho FU _ s_h5
theorem s_jA_fill_J_L6 {a : Nat} (ha : a ≠ 3) {v : Int64} {m : Int32} : ∀ (n : Nat) (i : Int32) {h h_ : AH}, Sim L xs h h_ → RO (Sim L xs) (f_jA_fill_J_L6 a v m n i h) (f_jA_fill_J_L6 a v m n i h_) := by
  intro n
  induction n with
  | zero => intro i h h_ s x hx; cases hx
  | succ n ih =>
    intro i h h_ s
    rw [f_jA_fill_J_L6, f_jA_fill_J_L6]
    refine RO_ite ?_ (RO_some s)
    exact ROb (s_wJ s ha) (fun x x_ s => ih _ s)
theorem s_jA_fill_J {h0 h0_ : AH} {r r_ : Option Nat} {v : Int64} (s_h0 : Sim L xs h0 h0_) (s_r : r = r_ ∧ r ≠ some 3) : RO (Sim L xs) (f_jA_fill_J h0 r v) (f_jA_fill_J h0_ r_ v) := by
  unfold f_jA_fill_J
  refine s_dr s_r (fun a n_a => ?_)
  refine ROb (s_alen s_h0 n_a) (fun x x_ e => ?_)
  subst e
  exact s_jA_fill_J_L6 n_a FU _ s_h0
theorem s_Wo_becomeOnly {h0 h0_ : AH} {o : Nat} {p1 : Int32} (s_h0 : Sim L xs h0 h0_) (ho : o ≠ 3) : RO (Sim L xs) (f_Wo_becomeOnly h0 o p1) (f_Wo_becomeOnly h0_ o p1) := by
  unfold f_Wo_becomeOnly
  refine ROb (s_gR s_h0 ho) (fun r1 r1_ s_r1 => ?_)
  refine ROb (s_jA_fill_J s_h0 s_r1) (fun h2 h2_ s_h2 => ?_)
  refine ROb (s_gR s_h2 ho) (fun r3 r3_ s_r3 => ?_)
  refine s_dr s_r3 (fun a4 n_a4 => ?_)
  refine ROb (s_wJ s_h2 n_a4) (fun h5 h5_ s_h5 => ?_)
  exact RO_some s_h5
theorem s_Lo_startWith {h0 h0_ : AH} {o : Nat} {p1 : Int32} (s_h0 : Sim L xs h0 h0_) (ho : o ≠ 3) : RO (Sim L xs) (f_Lo_startWith h0 o p1) (f_Lo_startWith h0_ o p1) := by
  unfold f_Lo_startWith
  refine ROb (s_pI s_h0 ho) (fun h1 h1_ s_h1 => ?_)
  refine ROb (s_gR s_h1 ho) (fun r2 r2_ s_r2 => ?_)
  refine s_dr s_r2 (fun a3 n_a3 => ?_)
  refine ROb (s_rR s_h1 n_a3) (fun r4 r4_ s_r4 => ?_)
  refine s_dr s_r4 (fun a5 n_a5 => ?_)
  refine ROb (s_cv s_h1 n_a5 (s_Wo_becomeOnly s_h1 n_a5)) (fun h6 h6_ s_h6 => ?_)
  exact RO_some s_h6
theorem s_C_init {h0 h0_ : AH} {o : Nat} (s_h0 : Sim L xs h0 h0_) (ho : o ≠ 3) : RO (Sim L xs) (f_C_init h0 o) (f_C_init h0_ o) := by
  unfold f_C_init
  try rw [s_h0.m]
  refine ROb (s_Pa_init (s_nO s_h0 7) (hM_3 s_h0)) (fun h2 h2_ s_h2 => ?_)
  try rw [s_h0.m]
  refine ROb (s_pR s_h2 ho (hM_s3 s_h0)) (fun h3 h3_ s_h3 => ?_)
  refine ROb (s_nAr s_h3) (fun h4 h4_ s_h4 => ?_)
  try rw [s_h3.m]
  refine ROb (s_pR s_h4 ho (hM_s3 s_h3)) (fun h5 h5_ s_h5 => ?_)
  try rw [s_h5.m]
  refine ROb (s_Wa_init (s_nO s_h5 10) (hM_3 s_h5)) (fun h7 h7_ s_h7 => ?_)
  try rw [s_h5.m]
  refine ROb (s_pR s_h7 ho (hM_s3 s_h5)) (fun h8 h8_ s_h8 => ?_)
  try rw [s_h8.m]
  refine ROb (s_Fi_init (s_nO s_h8 2) (hM_3 s_h8)) (fun h10 h10_ s_h10 => ?_)
  try rw [s_h8.m]
  refine ROb (s_pR s_h10 ho (hM_s3 s_h8)) (fun h11 h11_ s_h11 => ?_)
  try rw [s_h11.m]
  refine ROb (s_Ad_init (s_nO s_h11 1) (hM_3 s_h11)) (fun h13 h13_ s_h13 => ?_)
  try rw [s_h11.m]
  refine ROb (s_pR s_h13 ho (hM_s3 s_h11)) (fun h14 h14_ s_h14 => ?_)
  try rw [s_h14.m]
  refine ROb (s_Ro_init (s_nO s_h14 8) (hM_3 s_h14)) (fun h16 h16_ s_h16 => ?_)
  try rw [s_h14.m]
  refine ROb (s_pR s_h16 ho (hM_s3 s_h14)) (fun h17 h17_ s_h17 => ?_)
  try rw [s_h17.m]
  refine ROb (s_Lo_init (s_nO s_h17 6) (hM_3 s_h17)) (fun h19 h19_ s_h19 => ?_)
  try rw [s_h17.m]
  refine ROb (s_pR s_h19 ho (hM_s3 s_h17)) (fun h20 h20_ s_h20 => ?_)
  refine ROb (s_gR s_h20 ho) (fun r21 r21_ s_r21 => ?_)
  refine s_dr s_r21 (fun a22 n_a22 => ?_)
  refine ROb (s_cv s_h20 n_a22 (s_Lo_startWith s_h20 n_a22)) (fun h23 h23_ s_h23 => ?_)
  exact RO_some s_h23
theorem s_M_init {h0 h0_ : AH} {o : Nat} (s_h0 : Sim L xs h0 h0_) (ho : o ≠ 3) : RO (Sim L xs) (f_M_init h0 o) (f_M_init h0_ o) := by
  unfold f_M_init
  refine ROb (s_nAr s_h0) (fun h1 h1_ s_h1 => ?_)
  try rw [s_h0.m]
  refine ROb (s_pR s_h1 ho (hM_s3 s_h0)) (fun h2 h2_ s_h2 => ?_)
  refine ROb (s_nAr s_h2) (fun h3 h3_ s_h3 => ?_)
  try rw [s_h2.m]
  refine ROb (s_pR s_h3 ho (hM_s3 s_h2)) (fun h4 h4_ s_h4 => ?_)
  refine ROb (s_nAr s_h4) (fun h5 h5_ s_h5 => ?_)
  try rw [s_h4.m]
  refine ROb (s_pR s_h5 ho (hM_s3 s_h4)) (fun h6 h6_ s_h6 => ?_)
  refine ROb (s_nAr s_h6) (fun h7 h7_ s_h7 => ?_)
  try rw [s_h6.m]
  refine ROb (s_pR s_h7 ho (hM_s3 s_h6)) (fun h8 h8_ s_h8 => ?_)
  refine ROb (s_nAr s_h8) (fun h9 h9_ s_h9 => ?_)
  try rw [s_h8.m]
  refine ROb (s_pR s_h9 ho (hM_s3 s_h8)) (fun h10 h10_ s_h10 => ?_)
  refine ROb (s_nAr s_h10) (fun h11 h11_ s_h11 => ?_)
  try rw [s_h10.m]
  refine ROb (s_pR s_h11 ho (hM_s3 s_h10)) (fun h12 h12_ s_h12 => ?_)
  refine ROb (s_nAr s_h12) (fun h13 h13_ s_h13 => ?_)
  try rw [s_h12.m]
  refine ROb (s_pR s_h13 ho (hM_s3 s_h12)) (fun h14 h14_ s_h14 => ?_)
  refine ROb (s_nAr s_h14) (fun h15 h15_ s_h15 => ?_)
  try rw [s_h14.m]
  refine ROb (s_pR s_h15 ho (hM_s3 s_h14)) (fun h16 h16_ s_h16 => ?_)
  refine ROb (s_nAr s_h16) (fun h17 h17_ s_h17 => ?_)
  try rw [s_h16.m]
  refine ROb (s_pR s_h17 ho (hM_s3 s_h16)) (fun h18 h18_ s_h18 => ?_)
  refine ROb (s_nAr s_h18) (fun h19 h19_ s_h19 => ?_)
  try rw [s_h18.m]
  refine ROb (s_pR s_h19 ho (hM_s3 s_h18)) (fun h20 h20_ s_h20 => ?_)
  refine ROb (s_nAr s_h20) (fun h21 h21_ s_h21 => ?_)
  try rw [s_h20.m]
  refine ROb (s_pR s_h21 ho (hM_s3 s_h20)) (fun h22 h22_ s_h22 => ?_)
  refine ROb (s_nAr s_h22) (fun h23 h23_ s_h23 => ?_)
  try rw [s_h22.m]
  refine ROb (s_pR s_h23 ho (hM_s3 s_h22)) (fun h24 h24_ s_h24 => ?_)
  refine ROb (s_nAr s_h24) (fun h25 h25_ s_h25 => ?_)
  try rw [s_h24.m]
  refine ROb (s_pR s_h25 ho (hM_s3 s_h24)) (fun h26 h26_ s_h26 => ?_)
  refine ROb (s_nAr s_h26) (fun h27 h27_ s_h27 => ?_)
  try rw [s_h26.m]
  refine ROb (s_pR s_h27 ho (hM_s3 s_h26)) (fun h28 h28_ s_h28 => ?_)
  refine ROb (s_nAr s_h28) (fun h29 h29_ s_h29 => ?_)
  try rw [s_h28.m]
  refine ROb (s_pR s_h29 ho (hM_s3 s_h28)) (fun h30 h30_ s_h30 => ?_)
  refine ROb (s_nAr s_h30) (fun h31 h31_ s_h31 => ?_)
  try rw [s_h30.m]
  refine ROb (s_pR s_h31 ho (hM_s3 s_h30)) (fun h32 h32_ s_h32 => ?_)
  refine ROb (s_nAr s_h32) (fun h33 h33_ s_h33 => ?_)
  try rw [s_h32.m]
  refine ROb (s_pR s_h33 ho (hM_s3 s_h32)) (fun h34 h34_ s_h34 => ?_)
  refine ROb (s_nAr s_h34) (fun h35 h35_ s_h35 => ?_)
  try rw [s_h34.m]
  refine ROb (s_pR s_h35 ho (hM_s3 s_h34)) (fun h36 h36_ s_h36 => ?_)
  refine ROb (s_nAr s_h36) (fun h37 h37_ s_h37 => ?_)
  try rw [s_h36.m]
  refine ROb (s_pR s_h37 ho (hM_s3 s_h36)) (fun h38 h38_ s_h38 => ?_)
  refine ROb (s_nAr s_h38) (fun h39 h39_ s_h39 => ?_)
  try rw [s_h38.m]
  refine ROb (s_pR s_h39 ho (hM_s3 s_h38)) (fun h40 h40_ s_h40 => ?_)
  refine ROb (s_nAr s_h40) (fun h41 h41_ s_h41 => ?_)
  try rw [s_h40.m]
  refine ROb (s_pR s_h41 ho (hM_s3 s_h40)) (fun h42 h42_ s_h42 => ?_)
  refine ROb (s_nAr s_h42) (fun h43 h43_ s_h43 => ?_)
  try rw [s_h42.m]
  refine ROb (s_pR s_h43 ho (hM_s3 s_h42)) (fun h44 h44_ s_h44 => ?_)
  refine ROb (s_nAr s_h44) (fun h45 h45_ s_h45 => ?_)
  try rw [s_h44.m]
  refine ROb (s_pR s_h45 ho (hM_s3 s_h44)) (fun h46 h46_ s_h46 => ?_)
  refine ROb (s_nAr s_h46) (fun h47 h47_ s_h47 => ?_)
  try rw [s_h46.m]
  refine ROb (s_pR s_h47 ho (hM_s3 s_h46)) (fun h48 h48_ s_h48 => ?_)
  refine ROb (s_nAr s_h48) (fun h49 h49_ s_h49 => ?_)
  try rw [s_h48.m]
  refine ROb (s_pR s_h49 ho (hM_s3 s_h48)) (fun h50 h50_ s_h50 => ?_)
  refine ROb (s_nAr s_h50) (fun h51 h51_ s_h51 => ?_)
  try rw [s_h50.m]
  refine ROb (s_pR s_h51 ho (hM_s3 s_h50)) (fun h52 h52_ s_h52 => ?_)
  refine ROb (s_nAr s_h52) (fun h53 h53_ s_h53 => ?_)
  try rw [s_h52.m]
  refine ROb (s_pR s_h53 ho (hM_s3 s_h52)) (fun h54 h54_ s_h54 => ?_)
  refine ROb (s_nAr s_h54) (fun h55 h55_ s_h55 => ?_)
  try rw [s_h54.m]
  refine ROb (s_pR s_h55 ho (hM_s3 s_h54)) (fun h56 h56_ s_h56 => ?_)
  refine ROb (s_nAr s_h56) (fun h57 h57_ s_h57 => ?_)
  try rw [s_h56.m]
  refine ROb (s_pR s_h57 ho (hM_s3 s_h56)) (fun h58 h58_ s_h58 => ?_)
  refine ROb (s_nAr s_h58) (fun h59 h59_ s_h59 => ?_)
  try rw [s_h58.m]
  refine ROb (s_pR s_h59 ho (hM_s3 s_h58)) (fun h60 h60_ s_h60 => ?_)
  refine ROb (s_nAr s_h60) (fun h61 h61_ s_h61 => ?_)
  try rw [s_h60.m]
  refine ROb (s_pR s_h61 ho (hM_s3 s_h60)) (fun h62 h62_ s_h62 => ?_)
  refine ROb (s_nAr s_h62) (fun h63 h63_ s_h63 => ?_)
  try rw [s_h62.m]
  refine ROb (s_pR s_h63 ho (hM_s3 s_h62)) (fun h64 h64_ s_h64 => ?_)
  refine ROb (s_nAr s_h64) (fun h65 h65_ s_h65 => ?_)
  try rw [s_h64.m]
  refine ROb (s_pR s_h65 ho (hM_s3 s_h64)) (fun h66 h66_ s_h66 => ?_)
  refine ROb (s_nAr s_h66) (fun h67 h67_ s_h67 => ?_)
  try rw [s_h66.m]
  refine ROb (s_pR s_h67 ho (hM_s3 s_h66)) (fun h68 h68_ s_h68 => ?_)
  refine ROb (s_nAr s_h68) (fun h69 h69_ s_h69 => ?_)
  try rw [s_h68.m]
  refine ROb (s_pR s_h69 ho (hM_s3 s_h68)) (fun h70 h70_ s_h70 => ?_)
  exact RO_some s_h70
end INI
def kTab : List (Nat × Nat) := [(100, 0), (107, 0), (1, 80), (15, 81), (1, 41), (4, 41), (105, 0), (105, 0), (105, 0), (105, 0), (105, 0), (105, 0), (105, 0), (105, 0), (105, 0), (105, 0), (105, 0), (105, 0), (105, 0), (105, 0), (105, 0), (105, 0), (105, 0), (105, 0), (105, 0), (105, 0), (105, 0), (105, 0), (105, 0), (105, 0), (105, 0), (105, 0), (105, 0), (105, 0), (105, 0), (105, 0), (105, 0), (105, 0), (105, 0), (105, 0), (105, 0), (105, 0), (105, 0), (105, 0), (105, 0), (105, 0), (105, 0), (105, 0), (105, 0), (105, 0), (105, 0), (105, 0), (105, 0), (105, 0), (105, 0), (105, 0), (105, 0), (105, 0), (105, 0), (105, 0), (105, 0), (105, 0), (105, 0), (105, 0), (105, 0), (105, 0), (105, 0), (105, 0), (105, 0), (105, 0), (105, 0), (105, 0), (105, 0), (105, 0), (105, 0), (105, 0), (105, 0), (105, 0), (105, 0), (105, 0), (105, 0), (105, 0), (105, 0), (105, 0), (105, 0), (105, 0), (105, 0), (19, 6), (110, 0), (1, 4000), (1, 4000), (1, 4000), (1, 8192), (1, 4000), (102, 0), (1, 25), (101, 0), (1, 6720), (1, 5), (1, 8), (1, 8), (1, 25), (1, 625), (108, 0), (14, 8), (1, 12), (1, 5), (13, 6), (103, 0), (1, 12), (1, 8), (1, 5), (1, 5), (103, 0), (1, 12), (1, 8), (103, 0), (1, 12), (1, 8), (103, 0), (1, 12), (1, 8), (103, 0), (1, 12), (1, 8), (103, 0), (1, 12), (1, 8), (103, 0), (1, 12), (1, 8), (106, 0), (21, 31), (111, 0), (4, 64), (111, 0), (4, 64), (111, 0), (4, 64), (111, 0), (4, 64), (111, 0), (4, 64), (111, 0), (4, 64), (111, 0), (4, 64), (111, 0), (4, 64), (111, 0), (4, 64), (111, 0), (4, 64), (111, 0), (4, 64), (111, 0), (4, 64), (111, 0), (4, 64), (111, 0), (4, 64), (111, 0), (4, 64), (111, 0), (4, 64), (111, 0), (4, 64), (111, 0), (4, 64), (111, 0), (4, 64), (111, 0), (4, 64), (111, 0), (4, 64), (111, 0), (4, 64), (111, 0), (4, 64), (111, 0), (4, 64), (111, 0), (4, 64), (111, 0), (4, 64), (111, 0), (4, 64), (111, 0), (4, 64), (111, 0), (4, 64), (111, 0), (4, 64), (111, 0), (4, 64), (111, 0), (4, 64), (112, 0), (3, 80), (1, 6), (1, 2400), (2, 150), (1, 8), (1, 8), (1, 8), (1, 40), (1, 12), (1, 5), (1, 30), (1, 30), (1, 81), (1, 81), (2, 81), (4, 81), (4, 81), (2, 81), (4, 81), (4, 81), (1, 40), (4, 40), (1, 4001), (1, 4001), (1, 4001), (1, 4001), (1, 16384), (1, 8), (1, 8), (2, 625), (1, 12), (1, 5), (1, 5), (2, 4096), (2, 4096)]
def rTab : List (Nat × Nat × Nat) := [(4, 0, 5), (4, 1, 91), (4, 3, 92), (4, 4, 98), (4, 5, 100), (4, 8, 107), (4, 10, 135), (5, 0, 6), (5, 2, 7), (5, 5, 8), (5, 6, 9), (7, 0, 10), (7, 1, 11), (7, 2, 12), (7, 3, 13), (7, 4, 14), (7, 5, 15), (7, 6, 16), (7, 7, 17), (7, 8, 18), (7, 9, 19), (7, 10, 20), (7, 11, 21), (7, 12, 22), (7, 13, 23), (7, 14, 24), (7, 15, 25), (7, 16, 26), (7, 17, 27), (7, 18, 28), (7, 19, 29), (7, 20, 30), (7, 21, 31), (7, 22, 32), (7, 23, 33), (7, 24, 34), (7, 25, 35), (7, 26, 36), (7, 27, 37), (7, 28, 38), (7, 29, 39), (7, 30, 40), (7, 31, 41), (7, 32, 42), (7, 33, 43), (7, 34, 44), (7, 35, 45), (7, 36, 46), (7, 37, 47), (7, 38, 48), (7, 39, 49), (7, 40, 50), (7, 41, 51), (7, 42, 52), (7, 43, 53), (7, 44, 54), (7, 45, 55), (7, 46, 56), (7, 47, 57), (7, 48, 58), (7, 49, 59), (7, 50, 60), (7, 51, 61), (7, 52, 62), (7, 53, 63), (7, 54, 64), (7, 55, 65), (7, 56, 66), (7, 57, 67), (7, 58, 68), (7, 59, 69), (7, 60, 70), (7, 61, 71), (7, 62, 72), (7, 63, 73), (7, 64, 74), (7, 65, 75), (7, 66, 76), (7, 67, 77), (7, 68, 78), (7, 69, 79), (7, 70, 80), (7, 71, 81), (7, 72, 82), (7, 73, 83), (7, 74, 84), (7, 75, 85), (7, 76, 86), (7, 77, 87), (7, 78, 88), (7, 79, 89), (7, 80, 90), (92, 0, 93), (92, 1, 94), (92, 2, 95), (92, 4, 96), (92, 6, 97), (98, 0, 99), (100, 0, 101), (100, 4, 102), (100, 6, 103), (100, 7, 104), (100, 8, 105), (100, 9, 106), (107, 0, 108), (107, 2, 109), (107, 3, 110), (107, 5, 111), (107, 6, 112), (107, 7, 115), (107, 8, 116), (111, 0, 117), (111, 1, 120), (111, 2, 123), (111, 3, 126), (111, 4, 129), (111, 5, 132), (112, 1, 113), (112, 2, 114), (117, 1, 118), (117, 2, 119), (120, 1, 121), (120, 2, 122), (123, 1, 124), (123, 2, 125), (126, 1, 127), (126, 2, 128), (129, 1, 130), (129, 2, 131), (132, 1, 133), (132, 2, 134), (135, 0, 136), (135, 2, 137), (136, 0, 139), (136, 1, 141), (136, 2, 143), (136, 3, 145), (136, 4, 147), (136, 5, 149), (136, 6, 151), (136, 7, 153), (136, 8, 155), (136, 9, 157), (136, 10, 159), (136, 11, 161), (136, 12, 163), (136, 13, 165), (136, 14, 167), (136, 15, 169), (136, 16, 171), (136, 17, 173), (136, 18, 175), (136, 19, 177), (136, 20, 179), (136, 21, 181), (136, 22, 183), (136, 23, 185), (136, 24, 187), (136, 25, 189), (136, 26, 191), (136, 27, 193), (136, 28, 195), (136, 29, 197), (136, 30, 199), (137, 0, 138), (139, 0, 140), (141, 0, 142), (143, 0, 144), (145, 0, 146), (147, 0, 148), (149, 0, 150), (151, 0, 152), (153, 0, 154), (155, 0, 156), (157, 0, 158), (159, 0, 160), (161, 0, 162), (163, 0, 164), (165, 0, 166), (167, 0, 168), (169, 0, 170), (171, 0, 172), (173, 0, 174), (175, 0, 176), (177, 0, 178), (179, 0, 180), (181, 0, 182), (183, 0, 184), (185, 0, 186), (187, 0, 188), (189, 0, 190), (191, 0, 192), (193, 0, 194), (195, 0, 196), (197, 0, 198), (199, 0, 200), (201, 1, 202), (201, 3, 203), (201, 4, 204), (201, 5, 205), (201, 10, 206), (201, 11, 207), (201, 12, 208), (201, 13, 209), (201, 14, 210), (201, 16, 211), (201, 19, 212), (201, 20, 213), (201, 22, 214), (201, 23, 215), (201, 24, 216), (201, 25, 217), (201, 26, 218), (201, 27, 219), (201, 28, 220), (201, 29, 221), (201, 31, 222), (201, 32, 223), (201, 37, 224), (201, 39, 225), (201, 40, 226), (201, 41, 227), (201, 42, 228), (201, 43, 229), (201, 44, 230), (201, 49, 231), (201, 52, 232), (201, 53, 233), (201, 54, 234), (201, 55, 235), (201, 56, 236)]
def iTab : List (Nat × Nat) := [(4, 2), (4, 6), (4, 7), (4, 9), (5, 1), (92, 3), (92, 7), (100, 1), (107, 1), (107, 4), (135, 1), (109, 0), (109, 1), (109, 2), (109, 3), (109, 4), (109, 5), (109, 6), (109, 7), (109, 8), (109, 9), (109, 10), (109, 11), (210, 0), (210, 1), (210, 2), (210, 3), (210, 4), (210, 5), (210, 6), (210, 7), (210, 8), (210, 9), (210, 10), (210, 11), (201, 0), (201, 2), (201, 6), (201, 7), (201, 8), (201, 9), (201, 15), (201, 17), (201, 18), (201, 35), (201, 36)]
/-- what the kernel reads off -/
def honeOK (h : AH) : Bool := decide (hM h = 237) && decide (hZ h = 79765) && (List.range 233).all (fun i => decide (hK h (4 + i) = kTab.getD i (0, 0))) && rTab.all (fun q => decide (hR h q.1 q.2.1 = some q.2.2)) && iTab.all (fun q => decide (hI h q.1 q.2 = 0)) && decide (hR h 100 2 = none) && decide (hR h 100 3 = none) && (List.range 64).all (fun k => decide (hJ h 140 k = if k = 0 then 1 else 0)) && (decide (hK h 0 = (1, 4)) && decide (hK h 1 = (1, 4)) && decide (hK h 2 = (4, 6)) && (List.range 4).all (fun k => decide (hI h 0 k = tLT k)) && (List.range 4).all (fun k => decide (hI h 1 k = tGT k)) && (List.range 6).all (fun k => decide (hJ h 2 k = tWF k)))
theorem hone_ok : hone.map honeOK = some true := by decide +kernel
theorem hone_1 : (f_C_init (nO 0 hzero) 4).map hM = some 201 := by decide +kernel
