/-! THE REFERENCE'S WALK UP TO ITS FIRST FAULT: 0 just where no fault can be come to -/
def Suc (sA hA sB hB : Mc) (p : Pl) (k : Nat) (q : Pl) : Prop := (¬ sA p.1 k = -1 ∧ ¬ hB p.2.1 k = -1 ∧ q = (tN (sA p.1 k), tN (hB p.2.1 k), 0, 0)) ∨ (¬ sB p.2.1 k = -1 ∧ ¬ hA p.1 k = -1 ∧ q = (tN (hA p.1 k), tN (sB p.2.1 k), 0, 0))
theorem inL_rch {S : WSt} {p q : Pl} {par act : Nat} (h : inL S q = true) : inL (rch S p par act) q = true := by
  obtain ⟨x, hx, e⟩ := inL_iff.mp h
  exact inL_iff.mpr ⟨x, Nat.lt_of_lt_of_le hx rch_n, by rw [(rch_P hx).1]; exact e⟩
theorem inL_self {S : WSt} {p : Pl} {par act : Nat} (h : (rch S p par act).1.1 < 4000) : inL (rch S p par act) p = true := by
  unfold rch at h ⊢
  by_cases q : inL S p = true
  · rw [if_pos q]; exact q
  · rw [if_neg q] at h ⊢
    by_cases r : S.1.1 < 4000
    · rw [if_pos r]
      exact inL_iff.mpr ⟨S.1.1, Nat.lt_succ_self _, if_pos rfl⟩
    · rw [if_neg r] at h
      exact absurd h r
theorem rch_I {S : WSt} {p : Pl} {par act : Nat} {I : Pl → Prop} (h : ∀ z, z < S.1.1 → I (S.2.1 z)) (hp : I p) : ∀ z, z < (rch S p par act).1.1 → I ((rch S p par act).2.1 z) := by
  intro z hz
  unfold rch at hz ⊢
  by_cases q : inL S p = true
  · rw [if_pos q] at hz ⊢; exact h z hz
  · rw [if_neg q] at hz ⊢
    by_cases r : S.1.1 < 4000
    · rw [if_pos r] at hz ⊢
      show I (if z = S.1.1 then p else S.2.1 z)
      by_cases e : z = S.1.1
      · rw [if_pos e]; exact hp
      · rw [if_neg e]; exact h z (by have : z < S.1.1 + 1 := hz; omega)
    · rw [if_neg r] at hz ⊢; exact h z hz
section EX
variable {sA hA sB hB : Mc} {t : Nat} {p : Pl}
theorem st0_n {S : WSt} {k : Nat} : S.1.1 ≤ (st0 sA hA sB hB t p S k).1.1 := by
  unfold st0
  split
  · split
    · exact Nat.le_trans rch_n rch_n
    · exact rch_n
  · split
    · exact rch_n
    · exact Nat.le_refl _
theorem st0_in {S : WSt} {k : Nat} {q : Pl} (h : inL S q = true) : inL (st0 sA hA sB hB t p S k) q = true := by
  unfold st0
  split
  · split
    · exact inL_rch (inL_rch h)
    · exact inL_rch h
  · split
    · exact inL_rch h
    · exact h
theorem st0_suc {S : WSt} {k : Nat} {q : Pl} (hn : (st0 sA hA sB hB t p S k).1.1 < 4000) (s : Suc sA hA sB hB p k q) : inL (st0 sA hA sB hB t p S k) q = true := by
  unfold st0 at hn ⊢
  rcases s with ⟨s1, s2, s3⟩ | ⟨s1, s2, s3⟩
  · subst s3
    have c : ¬ sA p.1 k = -1 ∧ ¬ hB p.2.1 k = -1 := ⟨s1, s2⟩
    simp only [if_pos c] at hn ⊢
    split at hn
    · rename_i c2
      rw [if_pos c2]
      exact inL_rch (inL_self (Nat.lt_of_le_of_lt rch_n hn))
    · rename_i c2
      rw [if_neg c2]
      exact inL_self hn
  · subst s3
    rw [if_pos ⟨s1, s2⟩] at hn ⊢
    exact inL_self hn
theorem st0_I {S : WSt} {k : Nat} {I : Pl → Prop} (h : ∀ z, z < S.1.1 → I (S.2.1 z)) (hs : ∀ q, Suc sA hA sB hB p k q → I q) : ∀ z, z < (st0 sA hA sB hB t p S k).1.1 → I ((st0 sA hA sB hB t p S k).2.1 z) := by
  unfold st0
  split
  · rename_i c
    split
    · rename_i c2
      exact rch_I (rch_I h (hs _ (Or.inl ⟨c2.1, c2.2, rfl⟩))) (hs _ (Or.inr ⟨c.1, c.2, rfl⟩))
    · exact rch_I h (hs _ (Or.inr ⟨c.1, c.2, rfl⟩))
  · split
    · rename_i c2
      exact rch_I h (hs _ (Or.inl ⟨c2.1, c2.2, rfl⟩))
    · exact h
theorem ex0_n : ∀ d S, S.1.1 ≤ (ex0 sA hA sB hB t p d S).1.1
  | 0, S => Nat.le_refl _
  | d + 1, S => Nat.le_trans st0_n (ex0_n d (st0 sA hA sB hB t p S (7 - d)))
theorem ex0_in {q : Pl} : ∀ d S, inL S q = true → inL (ex0 sA hA sB hB t p d S) q = true
  | 0, S, h => h
  | d + 1, S, h => ex0_in d _ (st0_in h)
theorem ex0_suc {q : Pl} {k : Nat} (s : Suc sA hA sB hB p k q) (hk : k < 8) : ∀ d S, d ≤ 8 → 8 - d ≤ k → (ex0 sA hA sB hB t p d S).1.1 < 4000 → inL (ex0 sA hA sB hB t p d S) q = true
  | 0, S, _, h, _ => by omega
  | d + 1, S, h8, h, hn => by
    by_cases e : k = 7 - d
    · subst e
      exact ex0_in d _ (st0_suc (Nat.lt_of_le_of_lt (ex0_n d _) hn) s)
    · exact ex0_suc s hk d _ (by omega) (by omega) hn
theorem ex0_I {I : Pl → Prop} (hs : ∀ k, k < 8 → ∀ q, Suc sA hA sB hB p k q → I q) : ∀ d S, d ≤ 8 → (∀ z, z < S.1.1 → I (S.2.1 z)) → ∀ z, z < (ex0 sA hA sB hB t p d S).1.1 → I ((ex0 sA hA sB hB t p d S).2.1 z)
  | 0, S, _, h => h
  | d + 1, S, h8, h => ex0_I hs d _ (by omega) (st0_I h (hs (7 - d) (by omega)))
end EX
section W0
variable {h g : AH} {x y a b n m : Nat} {S : WSt} {t : Nat}
theorem walk0_M (hl : Lay h) (og : OG h) (T1 : TK h x a n) (T2 : TK h y b m) (hx : x < 6) (hy : y < 6) : OK (f_M_walk h 201 (nI x) (nI y) 0) (fun q => Dfr SMw h q.2 ∧ ((q.1 = 0 ∧ Gd (sO h x) (hO h x) (sX h y) (hX h y) (en h x) (en h y)) ∨ (¬ q.1 = 0 ∧ ¬ Gd (sO h x) (hO h x) (sX h y) (hX h y) (en h x) (en h y)))) := by
  have t1 := T1.1
  have t2 := T2.1
  have loop : ∀ d t N (g : AH) (S : WSt), t + d = 4001 → d + 1 < N → MW0 h n m g S → (∀ z, z < t → z < S.1.1 → fnd0 (sO h x) (hO h x) (sX h y) (hX h y) (en h x) (en h y) (S.2.1 z) = 0 ∧ ∀ k, k < 8 → ∀ q, Suc (sO h x) (hO h x) (sX h y) (hX h y) (S.2.1 z) k q → inL S q = true) → (∀ I : Nat → Nat → Prop, (I 0 0 ∧ ∀ i j, I i j → fnd0 (sO h x) (hO h x) (sX h y) (hX h y) (en h x) (en h y) (i, j, 0, 0) = 0 ∧ (∀ z, z < 8 → ¬ sO h x i z = -1 → ¬ hX h y j z = -1 → I (tN (sO h x i z)) (tN (hX h y j z))) ∧ ∀ z, z < 8 → ¬ sX h y j z = -1 → ¬ hO h x i z = -1 → I (tN (hO h x i z)) (tN (sX h y j z))) → ∀ z, z < S.1.1 → I (S.2.1 z).1 (S.2.1 z).2.1) → inL S (0, 0, 0, 0) = true → OK (f_M_walk_L18 201 (nI x) (nI y) 0 N (0 : Int32) (nI t) g) (fun q => Dfr SMw h q.2 ∧ ((q.1 = 0 ∧ Gd (sO h x) (hO h x) (sX h y) (hX h y) (en h x) (en h y)) ∨ (¬ q.1 = 0 ∧ ¬ Gd (sO h x) (hO h x) (sX h y) (hX h y) (en h x) (en h y)))) := by
    have fin : ∀ t (g : AH) (S : WSt), MW0 h n m g S → S.1.1 ≤ t → (∀ z, z < t → z < S.1.1 → fnd0 (sO h x) (hO h x) (sX h y) (hX h y) (en h x) (en h y) (S.2.1 z) = 0 ∧ ∀ k, k < 8 → ∀ q, Suc (sO h x) (hO h x) (sX h y) (hX h y) (S.2.1 z) k q → inL S q = true) → inL S (0, 0, 0, 0) = true → Gd (sO h x) (hO h x) (sX h y) (hX h y) (en h x) (en h y) := by
      intro t g S C le P i0
      refine ⟨fun i j => inL S (i, j, 0, 0) = true, i0, fun i j q => ?_⟩
      obtain ⟨z, hz, ez⟩ := inL_iff.mp q
      obtain ⟨p1, p2⟩ := P z (by omega) hz
      rw [ez] at p1 p2
      exact ⟨p1, fun k k8 q1 q2 => p2 k k8 _ (Or.inl ⟨q1, q2, rfl⟩), fun k k8 q1 q2 => p2 k k8 _ (Or.inr ⟨q1, q2, rfl⟩)⟩
    intro d
    induction d with
    | zero =>
      intro t N g S h1 h2 C P XR i0
      obtain ⟨N, rfl⟩ : ∃ q, N = q + 1 := ⟨N - 1, by omega⟩
      have lg := C.1.lay hl
      have w1 := C.2.1.1
      simp only [f_M_walk_L18, gI_n (kk201 lg), C.2.2.2.1, ob_v, nI_nlt (show S.1.1 ≤ t by omega) (by omega), if_false]
      exact OK.mk ⟨C.1, Or.inl ⟨rfl, fin t g S C (by omega) P i0⟩⟩
    | succ d ih =>
      intro t N g S h1 h2 C P XR i0
      obtain ⟨N, rfl⟩ : ∃ q, N = q + 1 := ⟨N - 1, by omega⟩
      have lg := C.1.lay hl
      have w1 := C.2.1.1
      by_cases q : t < S.1.1
      · obtain ⟨p1, p2, p3, p4⟩ := C.2.2.1 t q
        obtain ⟨g1, e1, C1, v45, v46, v47, le, same⟩ := passW_M hl og T1 T2 hx hy q C
        obtain ⟨S', eS'⟩ : ∃ S', S' = ex0 (sO h x) (hO h x) (sX h y) (hX h y) t (S.2.1 t) 8 S := ⟨_, rfl⟩
        rw [← eS'] at C1 le same
        have v225 : hI g1 225 t = nI (c0 (S.2.1 t)) := by
          have := C1.2.2.2.2.1 t (by omega)
          rw [same t q] at this; exact this
        obtain ⟨v, ev⟩ : ∃ v, v = fnd0 (sO h x) (hO h x) (sX h y) (hX h y) (en h x) (en h y) (S.2.1 t) := ⟨_, rfl⟩
        have v3 : v < 3 := by
          rw [ev]; unfold fnd0
          split
          · omega
          · split
            · omega
            · split <;> omega
        have B := fun {ρ : Type} (k : Int32 → Option ρ) => behind_M hl T1 T2 hx hy C1 p1 p2 v225 (by omega) (sO h x) (hO h x) (sX h y) (hX h y) v45 v46 k
        rw [← ev] at B
        have l1 := C1.1.lay hl
        have n625 := (few0 t1 t2 C1.2.1 C1.2.2.1).1
        have pe : S.2.1 t = ((S.2.1 t).1, (S.2.1 t).2.1, 0, 0) := Prod.ext rfl (Prod.ext rfl (Prod.ext p3 p4))
        simp only [f_M_walk_L18, gI_n (kk201 lg), C.2.2.2.1, ob_v, nI_lt q (by omega), if_true, cv_n (kk201 lg), e1]
        rw [B]
        by_cases vz : v = 0
        · subst vz
          rw [if_neg (show ¬ (0 : Int32) < nI 0 by decide), nI_1]
          refine ih (t + 1) N g1 S' (by omega) (by omega) C1 (fun z z1 z2 => ?_) (fun I cI => ?_) (by rw [eS']; exact ex0_in 8 S i0)
          · by_cases zt : z = t
            · subst zt
              rw [same z q]
              refine ⟨ev.symm, fun k k8 p s => ?_⟩
              rw [eS'] at n625 ⊢
              exact ex0_suc s k8 8 S (Nat.le_refl 8) (by omega) (by omega)
            · have zS : z < S.1.1 := by omega
              rw [same z zS]
              obtain ⟨r1, r2⟩ := P z (by omega) zS
              exact ⟨r1, fun k k8 p s => by rw [eS']; exact ex0_in 8 S (r2 k k8 p s)⟩
          · have base := XR I cI
            have It := base t q
            obtain ⟨c1, c2, c3⟩ := cI.2 _ _ It
            rw [eS']
            refine ex0_I (I := fun p => I p.1 p.2.1) (fun k k8 p s => ?_) 8 S (Nat.le_refl 8) base
            rcases s with ⟨s1, s2, s3⟩ | ⟨s1, s2, s3⟩
            · rw [s3]; exact c2 k k8 s1 s2
            · rw [s3]; exact c3 k k8 s1 s2
        · rw [if_pos (show (0 : Int32) < nI v from nI_lt (a := 0) (by omega) (by omega))]
          obtain ⟨g2, e2⟩ : ∃ g2, g2 = uI g1 201 47 (nI t) := ⟨_, rfl⟩
          have pp : pI 12 g1 201 47 (nI t) = some g2 := by rw [e2]; exact pI_n (kk201 l1)
          have f2 : Dfr SMw g1 g2 := by rw [e2]; exact Dfr.uI (by decide) (by unfold SMw; omega)
          have l2 := f2.lay l1
          have nv : ¬ nI v = 0 := nI_ne0 (by omega) (by omega)
          rw [pp, ob_v]
          obtain ⟨N, rfl⟩ : ∃ q, N = q + 1 := ⟨N - 1, by omega⟩
          refine OK.eq (a := (nI v, g2)) ?_ ⟨C1.1.trans f2, Or.inr ⟨nv, ?_⟩⟩
          · rw [f_M_walk_L18, gI_n (kk201 l2), ob_v]
            split
            · first | (rw [if_pos rfl, if_neg nv]; done) | (rw [if_pos rfl]; done) | (simp [nv]; done)
            · rfl
          · rintro ⟨I, I0, I1⟩
            have It := XR I ⟨I0, I1⟩ t q
            have := (I1 _ _ It).1
            rw [← pe, ← ev] at this
            exact vz this
      · simp only [f_M_walk_L18, gI_n (kk201 lg), C.2.2.2.1, ob_v, nI_nlt (show S.1.1 ≤ t by omega) (by omega), if_false]
        exact OK.mk ⟨C.1, Or.inl ⟨rfl, fin t g S C (by omega) P i0⟩⟩
  obtain ⟨g1, r, g2, e1, l1, e2, C⟩ := begin0_M (n := n) (m := m) hl t1 t2
  obtain ⟨s1, s2, s3⟩ := S01_n
  simp only [f_M_walk, cv_n (kk201 hl), e1, ob_v, cv_n (kk201 l1), e2, bd2_v]
  refine loop 4001 0 FU g2 S01 rfl (by unfold FU; omega) C (fun z hz => by omega) (fun I cI z hz => ?_) (inL_iff.mpr ⟨0, by rw [s1]; decide, s3⟩)
  rw [s1] at hz
  have : z = 0 := by omega
  subst this
  rw [s3]; exact cI.1
end W0
