/-! one place of the reference, at once -/
section P35
variable {h g : AH} {x y a b n m : Nat} {S : WSt} {p : Pl} {t : Nat}
theorem f45 (c u v : Int32) (B : Bool) (hc : c = bI B) : ((if c = (0 : Int32) then (if u = (-1 : Int32) then some (0 : Int32) else if v = (-1 : Int32) then some (1 : Int32) else some (0 : Int32)) else some (1 : Int32)) : Option Int32) = some (bI (B || decide (¬ u = -1 ∧ v = -1))) := by
  subst hc
  cases B with
  | true => rfl
  | false =>
    rw [if_pos (show bI false = 0 from rfl)]
    by_cases q : u = -1
    · rw [if_pos q]; simp [q, bI]
    · rw [if_neg q]
      by_cases r : v = -1
      · rw [if_pos r]; simp [q, r, bI]
      · rw [if_neg r]; simp [r, bI]
theorem bI01 (b : Bool) : bI b = 0 ∨ bI b = 1 := by cases b <;> decide
theorem pass35_M (hl : Lay h) (og : OG h) (T1 : TK h x a n) (T2 : TK h y b m) (hx : x < 6) (hy : y < 6) (hp1 : p.1 ≤ n) (hp2 : p.2.1 ≤ m) {S0 : WSt} (ht : t < S0.1.1) (C : MW0 h n m g S0) (v45 : hI g 201 45 = 0) (v46 : hI g 201 46 = 0) :
    OK (f_M_passFrom_L35 201 (nI x) (nI y) (nI t) (nI p.1) (nI p.2.1) FU 0 g) (fun g' => MW0 h n m g' (ex0 (sO h x) (hO h x) (sX h y) (hX h y) t p 8 S0) ∧ hI g' 201 45 = bI (unh (sO h x) (hO h x) (sX h y) (hX h y) p 8) ∧ hI g' 201 46 = bI (mvd (sO h x) (hO h x) (sX h y) (hX h y) p 8) ∧ hI g' 201 47 = hI g 201 47 ∧ S0.1.1 ≤ (ex0 (sO h x) (hO h x) (sX h y) (hX h y) t p 8 S0).1.1 ∧ ∀ z, z < S0.1.1 → (ex0 (sO h x) (hO h x) (sX h y) (hX h y) t p 8 S0).2.1 z = S0.2.1 z) := by
  have t1 := T1.1
  have t2 := T2.1
  have M := mch_O og T1 T2
  obtain ⟨E, eE⟩ : ∃ E, E = ex0 (sO h x) (hO h x) (sX h y) (hX h y) t p 8 S0 := ⟨_, rfl⟩
  rw [← eE]
  have main : ∀ d i N (g1 : AH) (S : WSt), i + d = 8 → d < N → MW0 h n m g1 S → hI g1 201 45 = bI (unh (sO h x) (hO h x) (sX h y) (hX h y) p i) → hI g1 201 46 = bI (mvd (sO h x) (hO h x) (sX h y) (hX h y) p i) → hI g1 201 47 = hI g 201 47 → S0.1.1 ≤ S.1.1 → (∀ z, z < S0.1.1 → S.2.1 z = S0.2.1 z) → ex0 (sO h x) (hO h x) (sX h y) (hX h y) t p d S = E → OK (f_M_passFrom_L35 201 (nI x) (nI y) (nI t) (nI p.1) (nI p.2.1) N (nI i) g1) (fun g' => MW0 h n m g' E ∧ hI g' 201 45 = bI (unh (sO h x) (hO h x) (sX h y) (hX h y) p 8) ∧ hI g' 201 46 = bI (mvd (sO h x) (hO h x) (sX h y) (hX h y) p 8) ∧ hI g' 201 47 = hI g 201 47 ∧ S0.1.1 ≤ E.1.1 ∧ ∀ z, z < S0.1.1 → E.2.1 z = S0.2.1 z) := by
    intro d
    induction d with
    | zero =>
      intro i N g1 S h1 h2 C u45 u46 u47 le same e
      obtain ⟨N, rfl⟩ : ∃ q, N = q + 1 := ⟨N - 1, by omega⟩
      have : i = 8 := by omega
      subst this
      rw [ex0] at e
      subst e
      simp only [f_M_passFrom_L35, show ¬ nI 8 < 8 by decide, if_false]
      exact OK.mk ⟨C, u45, u46, u47, le, same⟩
    | succ d ih =>
      intro i N g1 S h1 h2 C u45 u46 u47 le same e
      obtain ⟨N, rfl⟩ : ∃ q, N = q + 1 := ⟨N - 1, by omega⟩
      have hi : i < 8 := by omega
      have qi : nI i < 8 := nI_lt (b := 8) hi (by decide)
      have i7 : 7 - d = i := by omega
      rw [ex0, i7] at e
      have l1 := C.1.lay hl
      have og1 : OG g1 := fun z hz => by rw [C.1.I (by unfold SMw SMk; omega)]; exact og z hz
      have sa := (says_M l1 og1 hx (show p.1 ≤ 24 by omega) hi).1
      rw [(smw_O C.1).1] at sa
      have pl0 : f_M_place g1 (nI y) (nI p.2.1) (0 : Int32) (nI i) = some (nI (400 * y + 16 * p.2.1 + i)) := by
        have := place_M g1 y p.2.1 0 i; rw [show 8 * 0 + i = i by omega] at this; exact this
      have hb := next_M l1 hy (show p.2.1 ≤ 24 by omega) (show i < 16 by omega)
      rw [smw_nx C.1, show nx h y p.2.1 i = hX h y p.2.1 i from rfl] at hb
      obtain ⟨U, eU⟩ : ∃ U, U = (unh (sO h x) (hO h x) (sX h y) (hX h y) p i || decide (¬ sO h x p.1 i = -1 ∧ hX h y p.2.1 i = -1)) := ⟨_, rfl⟩
      have w17 := f45 (hI g1 201 45) (sO h x p.1 i) (hX h y p.2.1 i) _ u45
      rw [← eU] at w17
      obtain ⟨g2, e2⟩ : ∃ g2, g2 = uI g1 201 45 (bI U) := ⟨_, rfl⟩
      have p2 : pZ 12 g1 201 45 (bI U) = some g2 := by rw [e2]; exact pZ_n (kk201 l1) (bI01 U)
      have f2 : Dfr SMw g1 g2 := by rw [e2]; exact Dfr.uI (by decide) (by unfold SMw; omega)
      have C2 : MW0 h n m g2 S := ⟨C.1.trans f2, C.2.fr (fun a k z => by rw [e2, hI_ne (by omega)])⟩
      have l2 := C2.1.lay hl
      obtain ⟨S2, eS2⟩ : ∃ S2, S2 = (if ¬ sO h x p.1 i = -1 ∧ ¬ hX h y p.2.1 i = -1 then rch S (tN (sO h x p.1 i), tN (hX h y p.2.1 i), 0, 0) t (2 * i) else S) := ⟨_, rfl⟩
      obtain ⟨V, eV⟩ : ∃ V, V = (mvd (sO h x) (hO h x) (sX h y) (hX h y) p i || decide (¬ sO h x p.1 i = -1 ∧ ¬ hX h y p.2.1 i = -1)) := ⟨_, rfl⟩
      have first : OK ((if sO h x p.1 i = (-1 : Int32) then some (g2) else
          if hX h y p.2.1 i = (-1 : Int32) then
            some (g2)
          else
            (pZ 12 g2 201 46 (1 : Int32)).bind fun h19 =>
            bd2 (cv 12 h19 201 (f_M_isNew h19 201 (((25 : Int32) * sO h x p.1 i) + hX h y p.2.1 i) (nI t) ((2 : Int32) * nI i))) fun x20 h21 =>
            some (h21)) : Option AH) (fun g3 => MW0 h n m g3 S2 ∧ hI g3 201 45 = bI U ∧ hI g3 201 46 = bI V ∧ hI g3 201 47 = hI g 201 47 ∧ S.1.1 ≤ S2.1.1 ∧ ∀ z, z < S.1.1 → S2.2.1 z = S.2.1 z) := by
        have i45 : hI g2 201 45 = bI U := by rw [e2, hI_eq]
        have i47 : hI g2 201 47 = hI g 201 47 := by rw [e2, hI_ne (by omega)]; exact u47
        have i46 : hI g2 201 46 = bI (mvd (sO h x) (hO h x) (sX h y) (hX h y) p i) := by rw [e2, hI_ne (by omega)]; exact u46
        have stay : ¬ (¬ sO h x p.1 i = -1 ∧ ¬ hX h y p.2.1 i = -1) → OK (some g2) (fun g3 => MW0 h n m g3 S2 ∧ hI g3 201 45 = bI U ∧ hI g3 201 46 = bI V ∧ hI g3 201 47 = hI g 201 47 ∧ S.1.1 ≤ S2.1.1 ∧ ∀ z, z < S.1.1 → S2.2.1 z = S.2.1 z) := by
          intro q
          rw [if_neg q] at eS2
          rw [decide_eq_false q, Bool.or_false] at eV
          rw [eS2, eV]
          exact OK.mk ⟨C2, i45, i46, i47, Nat.le_refl _, fun z _ => rfl⟩
        by_cases q1 : sO h x p.1 i = -1
        · rw [if_pos q1]; exact stay (fun w => w.1 q1)
        · rw [if_neg q1]
          by_cases q2 : hX h y p.2.1 i = -1
          · rw [if_pos q2]; exact stay (fun w => w.2 q2)
          · rw [if_neg q2]
            rw [if_pos ⟨q1, q2⟩] at eS2
            rw [decide_eq_true ⟨q1, q2⟩, Bool.or_true] at eV
            obtain ⟨j1, e1⟩ := (mc_A M hp1 hi t1).1 q1
            obtain ⟨j2, e2'⟩ := (mc_B M hp2 hi t2).2 q2
            obtain ⟨g3, e3⟩ : ∃ g3, g3 = uI g2 201 46 1 := ⟨_, rfl⟩
            have p3 : pZ 12 g2 201 46 1 = some g3 := by rw [e3]; exact pZ_n (kk201 l2) (Or.inr rfl)
            have f3 : Dfr SMw g2 g3 := by rw [e3]; exact Dfr.uI (by decide) (by unfold SMw; omega)
            have C3 : MW0 h n m g3 S := ⟨C2.1.trans f3, C2.2.fr (fun a k z => by rw [e3, hI_ne (by omega)])⟩
            have l3 := C3.1.lay hl
            obtain ⟨r, g4, e4, c4, n4, o4, s4⟩ := come0_M (t := t) (act := 2 * i) hl t1 t2 C3 j1 j2 (by omega) (by omega)
            have cd : ((25 : Int32) * sO h x p.1 i) + hX h y p.2.1 i = nI (25 * tN (sO h x p.1 i) + tN (hX h y p.2.1 i)) := by
              rw [← nI_add, ← e2', ← pk_mul, ← e1]; rfl
            have a2 : (2 : Int32) * nI i = nI (2 * i) := pk_mul 2 i
            rw [p3, ob_v, cv_n (kk201 l3), cd, a2, e4, bd2_v, eS2]
            refine OK.mk ⟨c4, ?_, ?_, ?_, n4, s4⟩
            · rw [o4 201 45 (by unfold SMk; omega), e3, hI_ne (by omega)]; exact i45
            · rw [o4 201 46 (by unfold SMk; omega), e3, hI_eq, eV]; rfl
            · rw [o4 201 47 (by unfold SMk; omega), e3, hI_ne (by omega)]; exact i47
      simp only [f_M_passFrom_L35, qi, if_true, cv_n (kk201 l1), sa, gR_n (kk201 l1), LR l1, ob_v, pl0, hb, gI_n (kk201 l1)]
      rw [w17, ob_v, p2, ob_v]
      refine OK.bind (first.mono (fun g3 ⟨C3, k45, k46, k47, le3, same3⟩ => ?_))
      have l3 := C3.1.lay hl
      have og3 : OG g3 := fun z hz => by rw [C3.1.I (by unfold SMw SMk; omega)]; exact og z hz
      have ha' := (says_M l3 og3 hx (show p.1 ≤ 24 by omega) hi).2
      rw [(smw_O C3.1).2] at ha'
      have pl1 : f_M_place g3 (nI y) (nI p.2.1) (1 : Int32) (nI i) = some (nI (400 * y + 16 * p.2.1 + (8 + i))) := by
        have := place_M g3 y p.2.1 1 i; rw [show 8 * 1 + i = 8 + i by omega] at this; exact this
      have sb := next_M l3 hy (show p.2.1 ≤ 24 by omega) (show 8 + i < 16 by omega)
      rw [smw_nx C3.1, show nx h y p.2.1 (8 + i) = sX h y p.2.1 i from rfl] at sb
      have w29 := f45 (hI g3 201 45) (sX h y p.2.1 i) (hO h x p.1 i) _ k45
      have uu : (U || decide (¬ sX h y p.2.1 i = -1 ∧ hO h x p.1 i = -1)) = unh (sO h x) (hO h x) (sX h y) (hX h y) p (i + 1) := by rw [eU, unh, Bool.or_assoc]
      rw [uu] at w29
      obtain ⟨g4, e4⟩ : ∃ g4, g4 = uI g3 201 45 (bI (unh (sO h x) (hO h x) (sX h y) (hX h y) p (i + 1))) := ⟨_, rfl⟩
      have p4 : pZ 12 g3 201 45 (bI (unh (sO h x) (hO h x) (sX h y) (hX h y) p (i + 1))) = some g4 := by rw [e4]; exact pZ_n (kk201 l3) (bI01 _)
      have f4 : Dfr SMw g3 g4 := by rw [e4]; exact Dfr.uI (by decide) (by unfold SMw; omega)
      have C4 : MW0 h n m g4 S2 := ⟨C3.1.trans f4, C3.2.fr (fun a k z => by rw [e4, hI_ne (by omega)])⟩
      have l4 := C4.1.lay hl
      have i45 : hI g4 201 45 = bI (unh (sO h x) (hO h x) (sX h y) (hX h y) p (i + 1)) := by rw [e4, hI_eq]
      have i46 : hI g4 201 46 = bI V := by rw [e4, hI_ne (by omega)]; exact k46
      have i47 : hI g4 201 47 = hI g 201 47 := by rw [e4, hI_ne (by omega)]; exact k47
      have vv : (V || decide (¬ sX h y p.2.1 i = -1 ∧ ¬ hO h x p.1 i = -1)) = mvd (sO h x) (hO h x) (sX h y) (hX h y) p (i + 1) := by rw [eV, mvd, Bool.or_assoc]
      unfold st0 at e
      rw [← eS2] at e
      simp only [gR_n (kk201 l3), LR l3, ob_v, pl1, sb, cv_n (kk201 l3), ha', gI_n (kk201 l3)]
      rw [w29, ob_v, p4, ob_v, nI_1]
      have stay : ¬ (¬ sX h y p.2.1 i = -1 ∧ ¬ hO h x p.1 i = -1) → OK (f_M_passFrom_L35 201 (nI x) (nI y) (nI t) (nI p.1) (nI p.2.1) N (nI (i + 1)) g4) (fun g' => MW0 h n m g' E ∧ hI g' 201 45 = bI (unh (sO h x) (hO h x) (sX h y) (hX h y) p 8) ∧ hI g' 201 46 = bI (mvd (sO h x) (hO h x) (sX h y) (hX h y) p 8) ∧ hI g' 201 47 = hI g 201 47 ∧ S0.1.1 ≤ E.1.1 ∧ ∀ z, z < S0.1.1 → E.2.1 z = S0.2.1 z) := by
        intro q
        rw [if_neg q] at e
        rw [decide_eq_false q, Bool.or_false] at vv
        exact ih (i + 1) N g4 S2 (by omega) (by omega) C4 i45 (by rw [i46, vv]) i47 (by omega) (fun z hz => by rw [same3 z (by omega)]; exact same z hz) e
      by_cases q1 : sX h y p.2.1 i = -1
      · rw [if_pos q1]; exact stay (fun w => w.1 q1)
      · rw [if_neg q1]
        by_cases q2 : hO h x p.1 i = -1
        · rw [if_pos q2]; exact stay (fun w => w.2 q2)
        · rw [if_neg q2]
          rw [if_pos ⟨q1, q2⟩] at e
          rw [decide_eq_true ⟨q1, q2⟩, Bool.or_true] at vv
          obtain ⟨j1, e1⟩ := (mc_A M hp1 hi t1).2 q2
          obtain ⟨j2, e2'⟩ := (mc_B M hp2 hi t2).1 q1
          obtain ⟨g5, e5⟩ : ∃ g5, g5 = uI g4 201 46 1 := ⟨_, rfl⟩
          have p5 : pZ 12 g4 201 46 1 = some g5 := by rw [e5]; exact pZ_n (kk201 l4) (Or.inr rfl)
          have f5 : Dfr SMw g4 g5 := by rw [e5]; exact Dfr.uI (by decide) (by unfold SMw; omega)
          have C5 : MW0 h n m g5 S2 := ⟨C4.1.trans f5, C4.2.fr (fun a k z => by rw [e5, hI_ne (by omega)])⟩
          have l5 := C5.1.lay hl
          obtain ⟨r, g6, e6, c6, n6, o6, s6⟩ := come0_M (t := t) (act := 2 * i + 1) hl t1 t2 C5 j1 j2 (by omega) (by omega)
          have cd : ((25 : Int32) * hO h x p.1 i) + sX h y p.2.1 i = nI (25 * tN (hO h x p.1 i) + tN (sX h y p.2.1 i)) := by
            rw [← nI_add, ← e2', ← pk_mul, ← e1]; rfl
          have a2 : ((2 : Int32) * nI i) + (1 : Int32) = nI (2 * i + 1) := by rw [show (2 : Int32) = nI 2 from rfl, pk_mul, nI_1]
          rw [p5, ob_v, cv_n (kk201 l5), cd, a2, e6, bd2_v]
          refine ih (i + 1) N g6 _ (by omega) (by omega) c6 ?_ ?_ ?_ (by omega) (fun z hz => by rw [s6 z (by omega), same3 z (by omega)]; exact same z hz) e
          · rw [o6 201 45 (by unfold SMk; omega), e5, hI_ne (by omega)]; exact i45
          · rw [o6 201 46 (by unfold SMk; omega), e5, hI_eq, ← vv]; rfl
          · rw [o6 201 47 (by unfold SMk; omega), e5, hI_ne (by omega)]; exact i47
  exact main 8 0 FU g S0 rfl (by unfold FU; omega) C v45 v46 rfl (Nat.le_refl _) (fun z _ => rfl) eE.symm
theorem passW_M (hl : Lay h) (og : OG h) (T1 : TK h x a n) (T2 : TK h y b m) (hx : x < 6) (hy : y < 6) (ht : t < S.1.1) (C : MW0 h n m g S) :
    OK (f_M_passFrom g 201 (nI x) (nI y) (nI t)) (fun g' => MW0 h n m g' (ex0 (sO h x) (hO h x) (sX h y) (hX h y) t (S.2.1 t) 8 S) ∧ hI g' 201 45 = bI (unh (sO h x) (hO h x) (sX h y) (hX h y) (S.2.1 t) 8) ∧ hI g' 201 46 = bI (mvd (sO h x) (hO h x) (sX h y) (hX h y) (S.2.1 t) 8) ∧ hI g' 201 47 = hI g 201 47 ∧ S.1.1 ≤ (ex0 (sO h x) (hO h x) (sX h y) (hX h y) t (S.2.1 t) 8 S).1.1 ∧ ∀ z, z < S.1.1 → (ex0 (sO h x) (hO h x) (sX h y) (hX h y) t (S.2.1 t) 8 S).2.1 z = S.2.1 z) := by
  have t1 := T1.1
  have t2 := T2.1
  have lg := C.1.lay hl
  have w1 := C.2.1.1
  obtain ⟨p1, p2, p3, p4⟩ := C.2.2.1 t ht
  have v : hI g 225 t = nI (25 * (S.2.1 t).1 + (S.2.1 t).2.1) := C.2.2.2.2.1 t ht
  have d1 : nI (25 * (S.2.1 t).1 + (S.2.1 t).2.1) / (25 : Int32) = nI (S.2.1 t).1 := by
    have := pk_div (a := 25 * (S.2.1 t).1 + (S.2.1 t).2.1) (d := 25) (by omega) (by decide) (by decide)
    rw [show (25 * (S.2.1 t).1 + (S.2.1 t).2.1) / 25 = (S.2.1 t).1 by omega] at this; exact this
  have d2 : nI (25 * (S.2.1 t).1 + (S.2.1 t).2.1) - nI (25 * (S.2.1 t).1 + (S.2.1 t).2.1) / (25 : Int32) * (25 : Int32) = nI (S.2.1 t).2.1 := by
    have := pk_rem (a := 25 * (S.2.1 t).1 + (S.2.1 t).2.1) (d := 25) (by omega) (by decide) (by decide)
    rw [show (25 * (S.2.1 t).1 + (S.2.1 t).2.1) % 25 = (S.2.1 t).2.1 by omega] at this; exact this
  obtain ⟨g1, e1⟩ : ∃ g1, g1 = uI g 201 45 0 := ⟨_, rfl⟩
  have q1 : pZ 12 g 201 45 0 = some g1 := by rw [e1]; exact pZ_n (kk201 lg) (Or.inl rfl)
  have f1 : Dfr SMw g g1 := by rw [e1]; exact Dfr.uI (by decide) (by unfold SMw; omega)
  have l1 := f1.lay lg
  obtain ⟨g2, e2⟩ : ∃ g2, g2 = uI g1 201 46 0 := ⟨_, rfl⟩
  have q2 : pZ 12 g1 201 46 0 = some g2 := by rw [e2]; exact pZ_n (kk201 l1) (Or.inl rfl)
  have f2 : Dfr SMw g1 g2 := by rw [e2]; exact Dfr.uI (by decide) (by unfold SMw; omega)
  have C2 : MW0 h n m g2 S := ⟨(C.1.trans f1).trans f2, C.2.fr (fun a k z => by rw [e2, hI_ne (by omega), e1, hI_ne (by omega)])⟩
  simp only [f_M_passFrom, gR_n (kk201 lg), LR lg, ob_v, rI_n (kk225 lg) (show t < 4001 by omega) (by decide), v, q1, q2]
  rw [d2, d1]
  refine (pass35_M hl og T1 T2 hx hy p1 p2 ht C2 (by rw [e2, hI_ne (by omega), e1, hI_eq]) (by rw [e2, hI_eq])).mono (fun g' ⟨c1, c2, c3, c4, c5, c6⟩ => ⟨c1, c2, c3, ?_, c5, c6⟩)
  rw [c4, e2, hI_ne (by omega), e1, hI_ne (by omega)]
end P35
