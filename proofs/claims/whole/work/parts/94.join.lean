/-! one place by queues; the walk; join() -/
section QW
variable {h g : AH} {x y a b n m K : Nat} {S : WSt} {t : Nat}
theorem un4 {p : Pl} (hp : plOK p) : (nI (cM p) - nI (cM p) / (73 : Int32) * (73 : Int32) = nI p.2.2.2) ∧ ((nI (cM p) / (73 : Int32)) - (nI (cM p) / (73 : Int32)) / (73 : Int32) * (73 : Int32) = nI p.2.2.1) ∧ ((nI (cM p) / (5329 : Int32)) - (nI (cM p) / (5329 : Int32)) / (25 : Int32) * (25 : Int32) = nI p.2.1) ∧ (nI (cM p) / (133225 : Int32) = nI p.1) ∧ (nI (cM p) - nI (cM p) / (5329 : Int32) * (5329 : Int32) = nI (73 * p.2.2.1 + p.2.2.2)) := by
  have cl := cM_lt hp
  obtain ⟨a1, a2, a3, a4⟩ := hp
  have ec : cM p = ((p.1 * 25 + p.2.1) * 73 + p.2.2.1) * 73 + p.2.2.2 := rfl
  refine ⟨?_, ?_, ?_, ?_, ?_⟩
  · have r := pk_rem (a := cM p) (d := 73) (by omega) (by decide) (by decide)
    rw [show cM p % 73 = p.2.2.2 by omega] at r; exact r
  · have d := pk_div (a := cM p) (d := 73) (by omega) (by decide) (by decide)
    have d' : nI (cM p) / (73 : Int32) = nI (cM p / 73) := d
    have r := pk_rem (a := cM p / 73) (d := 73) (by omega) (by decide) (by decide)
    rw [d']
    rw [show cM p / 73 % 73 = p.2.2.1 by omega] at r; exact r
  · have d := pk_div (a := cM p) (d := 5329) (by omega) (by decide) (by decide)
    have d' : nI (cM p) / (5329 : Int32) = nI (cM p / 5329) := d
    have r := pk_rem (a := cM p / 5329) (d := 25) (by omega) (by decide) (by decide)
    rw [d']
    rw [show cM p / 5329 % 25 = p.2.1 by omega] at r; exact r
  · have d := pk_div (a := cM p) (d := 133225) (by omega) (by decide) (by decide)
    rw [show cM p / 133225 = p.1 by omega] at d; exact d
  · have r := pk_rem (a := cM p) (d := 5329) (by omega) (by decide) (by decide)
    rw [show cM p % 5329 = 73 * p.2.2.1 + p.2.2.2 by omega] at r; exact r
theorem act_M (hl : Lay h) (k2 : K ≤ 2) (T1 : TK h x a n) (T2 : TK h y b m) (hx : x < 6) (hy : y < 6) (C : MWq h n m g S) (ht : t < S.1.1) : OK (f_M_actFrom g 201 (nI x) (nI y) (nI K) (nI t)) (fun g' => AR h n m S (hI g 201 47) g' (ex1 K (sX h x) (hX h x) (sX h y) (hX h y) t (S.2.1 t) S) (mv1 K (sX h x) (hX h x) (sX h y) (hX h y) (S.2.1 t))) := by
  have t1 := T1.1
  have t2 := T2.1
  have M := mch_T T1 T2
  have lg := C.1.lay hl
  have w1 := C.2.1.1.1
  obtain ⟨p, ep⟩ : ∃ p, p = S.2.1 t := ⟨_, rfl⟩
  have hp : plIn n m p := by rw [ep]; exact C.2.1.2.1 t ht
  have pok : plOK p := ⟨by have := hp.1; omega, by have := hp.2.1; omega, hp.2.2.1, hp.2.2.2⟩
  have v : hI g 225 t = nI (cM p) := by rw [ep]; exact C.2.1.2.2.2.1 t ht
  obtain ⟨d1, d2, d3, d4, _⟩ := un4 pok
  obtain ⟨g1, e1⟩ : ∃ g1, g1 = uI g 201 46 0 := ⟨_, rfl⟩
  have q1 : pZ 12 g 201 46 0 = some g1 := by rw [e1]; exact pZ_n (kk201 lg) (Or.inl rfl)
  have f1 : Dfr SMw g g1 := by rw [e1]; exact Dfr.uI (by decide) (by unfold SMw; omega)
  have A0 : AR h n m S (hI g 201 47) g1 S false := by
    refine ⟨⟨C.1.trans f1, C.2.1.fr (fun a k z => by rw [e1, hI_ne (by omega)]), by rw [e1, hI_ne (by omega)]; exact C.2.2⟩, by rw [e1, hI_eq]; rfl, by rw [e1, hI_ne (by omega)], Nat.le_refl _, fun z _ => rfl⟩
  simp only [f_M_actFrom, gR_n (kk201 lg), LR lg, ob_v, rI_n (kk225 lg) (show t < 4001 by omega) (by decide), v, q1]
  rw [d1, d2, d3, d4, ← ep]
  refine actA_M hl k2 T1 T2 hx hp _ _ ht (fun gA AA => ?_) A0
  refine actB_M hl k2 T1 T2 hy hp _ _ ht (fun gB AB => ?_) AA
  obtain ⟨SB, eSB⟩ : ∃ SB, SB = exB K (sX h y) t p 8 (exA K (sX h x) t p 8 S) := ⟨_, rfl⟩
  rw [← eSB] at AB
  obtain ⟨B1, eB1⟩ : ∃ B1, B1 = ((anyS (sX h x) p.1 8 && decide (szQ p.2.2.1 < K)) || (anyS (sX h y) p.2.1 8 && decide (szQ p.2.2.2 < K))) := ⟨_, rfl⟩
  rw [← eB1] at AB
  have lB := AB.1.1.lay hl
  have third : OK ((if (0 : Int32) < nI p.2.2.2 then
          (gR 12 gB 201 4).bind fun r36 =>
          (f_M_front gB (nI p.2.2.2)).bind fun x37 =>
          (f_M_place gB (nI x) (nI p.1) (0 : Int32) x37).bind fun x38 =>
          (r36).bind fun a39 =>
          (rI 1 gB a39 x38).bind fun x40 =>
          if x40 = (-1 : Int32) then
            some (gB)
          else
            (gR 12 gB 201 4).bind fun r41 =>
            (f_M_front gB (nI p.2.2.2)).bind fun x42 =>
            (f_M_place gB (nI x) (nI p.1) (0 : Int32) x42).bind fun x43 =>
            (r41).bind fun a44 =>
            (rI 1 gB a44 x43).bind fun x45 =>
            (f_M_rest gB (nI p.2.2.2)).bind fun x46 =>
            (f_M_code gB x45 (nI p.2.1) (nI p.2.2.1) x46).bind fun x47 =>
            (cv 12 gB 201 (f_M_come gB 201 x47 (nI t) (16 : Int32))).bind fun h48 =>
            some (h48)
        else
          some (gB)) : Option AH) (fun g' => AR h n m S (hI g 201 47) g' (ha1 (hX h x) t p SB) (B1 || decide (0 < p.2.2.2 ∧ ¬ hX h x p.1 (frt p.2.2.2) = -1))) := by
    unfold ha1
    by_cases z : 0 < p.2.2.2
    · have z72 := hp.2.2.2
      rw [if_pos (show (0 : Int32) < nI p.2.2.2 from nI_lt (a := 0) z (by omega))]
      obtain ⟨fr1, fr2⟩ := frt_M gB z hp.2.2.2
      have f8 := frt_lt z hp.2.2.2
      have pl : f_M_place gB (nI x) (nI p.1) (0 : Int32) (nI (frt p.2.2.2)) = some (nI (400 * x + 16 * p.1 + frt p.2.2.2)) := by
        have := place_M gB x p.1 0 (frt p.2.2.2); rw [show 8 * 0 + frt p.2.2.2 = frt p.2.2.2 by omega] at this; exact this
      have nx' := next_M lB hx (show p.1 ≤ 24 by have := hp.1; omega) (show frt p.2.2.2 < 16 by omega)
      rw [smw_nx AB.1.1, show nx h x p.1 (frt p.2.2.2) = hX h x p.1 (frt p.2.2.2) from rfl] at nx'
      simp only [gR_n (kk201 lB), LR lB, ob_v, fr1, fr2, pl, nx']
      by_cases q : hX h x p.1 (frt p.2.2.2) = -1
      · rw [if_pos q, if_neg (fun w => w.2 q), decide_eq_false (fun w => w.2 q), Bool.or_false]
        exact OK.mk AB
      · rw [if_neg q, if_pos ⟨z, q⟩, decide_eq_true ⟨z, q⟩, Bool.or_true]
        obtain ⟨j1, e2⟩ := (mc_A M hp.1 f8 t1).2 q
        have cd := code_M gB (tN (hX h x p.1 (frt p.2.2.2)), p.2.1, p.2.2.1, rst p.2.2.2)
        dsimp only at cd
        rw [← e2] at cd
        obtain ⟨g', e3, A'⟩ := AB.come hl t1 t2 (q := (tN (hX h x p.1 (frt p.2.2.2)), p.2.1, p.2.2.1, rst p.2.2.2)) ⟨j1, hp.2.1, hp.2.2.1, rst_le hp.2.2.2⟩ (act := 16) ht (by decide)
        have e3' : f_M_come gB 201 (nI (cM (tN (hX h x p.1 (frt p.2.2.2)), p.2.1, p.2.2.1, rst p.2.2.2))) (nI t) (16 : Int32) = some g' := e3
        rw [cd, ob_v, cv_n (kk201 lB), e3', ob_v]
        exact OK.mk A'
    · have z0 : p.2.2.2 = 0 := by omega
      rw [if_neg (show ¬ (0 : Int32) < nI p.2.2.2 by rw [z0]; decide), if_neg (fun w => z w.1), decide_eq_false (fun w => z w.1), Bool.or_false]
      exact OK.mk AB
  refine OK.bind (third.mono (fun gC AC => ?_))
  obtain ⟨SC, eSC⟩ : ∃ SC, SC = ha1 (hX h x) t p SB := ⟨_, rfl⟩
  rw [← eSC] at AC
  obtain ⟨B2, eB2⟩ : ∃ B2, B2 = (B1 || decide (0 < p.2.2.2 ∧ ¬ hX h x p.1 (frt p.2.2.2) = -1)) := ⟨_, rfl⟩
  rw [← eB2] at AC
  have lC := AC.1.1.lay hl
  have eD : hb1 (hX h y) t p SC = ex1 K (sX h x) (hX h x) (sX h y) (hX h y) t p S := by unfold ex1; rw [eSC, eSB]
  have eM : (B2 || decide (0 < p.2.2.1 ∧ ¬ hX h y p.2.1 (frt p.2.2.1) = -1)) = mv1 K (sX h x) (hX h x) (sX h y) (hX h y) p := by unfold mv1; rw [eB2, eB1]
  rw [← eD, ← eM]
  unfold hb1
  by_cases z : 0 < p.2.2.1
  · have z72 := hp.2.2.1
    rw [if_pos (show (0 : Int32) < nI p.2.2.1 from nI_lt (a := 0) z (by omega))]
    obtain ⟨fr1, fr2⟩ := frt_M gC z hp.2.2.1
    have f8 := frt_lt z hp.2.2.1
    have pl : f_M_place gC (nI y) (nI p.2.1) (0 : Int32) (nI (frt p.2.2.1)) = some (nI (400 * y + 16 * p.2.1 + frt p.2.2.1)) := by
      have := place_M gC y p.2.1 0 (frt p.2.2.1); rw [show 8 * 0 + frt p.2.2.1 = frt p.2.2.1 by omega] at this; exact this
    have nx' := next_M lC hy (show p.2.1 ≤ 24 by have := hp.2.1; omega) (show frt p.2.2.1 < 16 by omega)
    rw [smw_nx AC.1.1, show nx h y p.2.1 (frt p.2.2.1) = hX h y p.2.1 (frt p.2.2.1) from rfl] at nx'
    simp only [gR_n (kk201 lC), LR lC, ob_v, fr1, fr2, pl, nx']
    by_cases q : hX h y p.2.1 (frt p.2.2.1) = -1
    · rw [if_pos q, if_neg (fun w => w.2 q), decide_eq_false (fun w => w.2 q), Bool.or_false]
      exact OK.mk AC
    · rw [if_neg q, if_pos ⟨z, q⟩, decide_eq_true ⟨z, q⟩, Bool.or_true]
      obtain ⟨j1, e2⟩ := (mc_B M hp.2.1 f8 t2).2 q
      have cd := code_M gC (p.1, tN (hX h y p.2.1 (frt p.2.2.1)), rst p.2.2.1, p.2.2.2)
      dsimp only at cd
      rw [← e2] at cd
      obtain ⟨g', e3, A'⟩ := AC.come hl t1 t2 (q := (p.1, tN (hX h y p.2.1 (frt p.2.2.1)), rst p.2.2.1, p.2.2.2)) ⟨hp.1, j1, rst_le hp.2.2.1, hp.2.2.2⟩ (act := 17) ht (by decide)
      have e3' : f_M_come gC 201 (nI (cM (p.1, tN (hX h y p.2.1 (frt p.2.2.1)), rst p.2.2.1, p.2.2.2))) (nI t) (17 : Int32) = some g' := e3
      rw [cd, ob_v, cv_n (kk201 lC), e3', ob_v]
      exact OK.mk A'
  · have z0 : p.2.2.1 = 0 := by omega
    rw [if_neg (show ¬ (0 : Int32) < nI p.2.2.1 by rw [z0]; decide), if_neg (fun w => z w.1), decide_eq_false (fun w => z w.1), Bool.or_false]
    exact OK.mk AC
theorem walkQ_M (hl : Lay h) (k1 : 1 ≤ K) (k2 : K ≤ 2) (T1 : TK h x a n) (T2 : TK h y b m) (hx : x < 6) (hy : y < 6) {ρ : Type} {Q : ρ → Prop} (k : Int32 → AH → Option ρ) {R : WSt × Nat × Nat}
    (hk : ∀ g', MWq h n m g' R.1 → R.2.1 < 3 → (¬ R.2.1 = 0 → hI g' 201 47 = nI R.2.2 ∧ R.2.2 < R.1.1.1) → OK (k (nI R.2.1) g') Q) :
    ∀ d t N (g : AH) (S : WSt) (f w : Nat), t + d = 4001 → d < N → MWq h n m g S → f < 3 → (¬ f = 0 → hI g 201 47 = nI w ∧ w < S.1.1) → bfs K (sX h x) (hX h x) (sX h y) (hX h y) (en h x) (en h y) d t S f w = R →
    OK (f_M_walkQueues_L23 201 (nI x) (nI y) (nI K) k N (nI f) (nI t) g) Q := by
  have t1 := T1.1
  have t2 := T2.1
  intro d
  induction d with
  | zero =>
    intro t N g S f w h1 h2 C f3 W e
    obtain ⟨N, rfl⟩ : ∃ q, N = q + 1 := ⟨N - 1, by omega⟩
    have lg := C.1.lay hl
    have w1 := C.2.1.1.1
    rw [bfs] at e
    subst e
    simp only [f_M_walkQueues_L23, gI_n (kk201 lg), C.2.1.2.2.1, ob_v, nI_nlt (show S.1.1 ≤ t by omega) (by omega), if_false]
    exact hk g C f3 W
  | succ d ih =>
    intro t N g S f w h1 h2 C f3 W e
    obtain ⟨N, rfl⟩ : ∃ q, N = q + 1 := ⟨N - 1, by omega⟩
    have lg := C.1.lay hl
    have w1 := C.2.1.1.1
    rw [bfs] at e
    by_cases q : t < S.1.1
    · have v48 := C.2.2
      cases sp : S.1.2 with
      | true =>
        rw [if_neg (by rw [sp]; simp)] at e
        subst e
        rw [sp] at v48
        have v48' : hI g 201 48 = 1 := v48
        simp only [f_M_walkQueues_L23, gI_n (kk201 lg), C.2.1.2.2.1, ob_v, nI_lt q (by omega), if_true, v48', show ¬ ((1 : Int32) = 0) by decide, if_false]
        exact hk g C f3 W
      | false =>
        rw [if_pos ⟨q, sp⟩] at e
        rw [sp] at v48
        have v48' : hI g 201 48 = 0 := v48
        obtain ⟨p1, p2, p3, p4⟩ := C.2.1.2.1 t q
        obtain ⟨g1, e1, A⟩ := act_M hl k2 T1 T2 hx hy C q
        have kz : ¬ K = 0 := by omega
        have es : stW K (sX h x) (hX h x) (sX h y) (hX h y) t (S.2.1 t) S = ex1 K (sX h x) (hX h x) (sX h y) (hX h y) t (S.2.1 t) S := by unfold stW; rw [if_neg kz]
        have ef : fdW K (sX h x) (hX h x) (sX h y) (hX h y) (en h x) (en h y) (S.2.1 t) = fnd1 K (sX h x) (hX h x) (sX h y) (hX h y) (en h x) (en h y) (S.2.1 t) := by unfold fdW; rw [if_neg kz]
        rw [es, ef] at e
        obtain ⟨S', eS'⟩ : ∃ S', S' = ex1 K (sX h x) (hX h x) (sX h y) (hX h y) t (S.2.1 t) S := ⟨_, rfl⟩
        rw [← eS'] at e A
        obtain ⟨p, ep⟩ : ∃ p, p = S.2.1 t := ⟨_, rfl⟩
        rw [← ep] at e A p1 p2 p3 p4
        have pok : plOK p := ⟨by omega, by omega, p3, p4⟩
        have l1 := A.1.1.lay hl
        have v225 : hI g1 225 t = nI (cM p) := by
          have := A.1.2.1.2.2.2.1 t (by have := A.2.2.2.1; omega)
          rw [A.2.2.2.2 t q, ← ep] at this; exact this
        obtain ⟨_, _, u3, u4, u5⟩ := un4 pok
        have ix : ∀ j j', ((25 : Int32) * nI j) + nI j' = nI (25 * j + j') := fun j j' => by rw [show (25 : Int32) = nI 25 from rfl, pk_mul, nI_add]
        have E1 : hI g1 205 (25 * x + p.1) = en h x p.1 := by have := smw_en A.1.1; rw [← this]; rfl
        have E2 : hI g1 205 (25 * y + p.2.1) = en h y p.2.1 := by have := smw_en A.1.1; rw [← this]; rfl
        have z5 : (nI (73 * p.2.2.1 + p.2.2.2) = 0) ↔ p.2.2.1 = 0 ∧ p.2.2.2 = 0 := by
          rw [show (0 : Int32) = nI 0 from rfl, nI_eq (by omega) (by decide)]
          omega
        have x11 : ((if nI (73 * p.2.2.1 + p.2.2.2) = (0 : Int32) then some (1 : Int32) else some (0 : Int32)) : Option Int32) = some (bI (decide (p.2.2.1 = 0 ∧ p.2.2.2 = 0))) := by
          by_cases z : p.2.2.1 = 0 ∧ p.2.2.2 = 0
          · rw [if_pos (z5.mpr z), decide_eq_true z]; rfl
          · rw [if_neg (fun w => z (z5.mp w)), decide_eq_false z]; rfl
        have x24 : ((if bI (decide (p.2.2.1 = 0 ∧ p.2.2.2 = 0)) = (0 : Int32) then some (0 : Int32) else if en h x p.1 = (0 : Int32) then some (0 : Int32) else if en h y p.2.1 = (0 : Int32) then some (0 : Int32) else some (1 : Int32)) : Option Int32) = some (bI (decide ((en h x p.1 = 1 ∧ en h y p.2.1 = 1) ∧ p.2.2.1 = 0 ∧ p.2.2.2 = 0))) := by
          by_cases z : p.2.2.1 = 0 ∧ p.2.2.2 = 0
          · rw [decide_eq_true z, if_neg (show ¬ bI true = 0 by decide)]
            rcases T1.en01 p1 with e | e <;> rcases T2.en01 p2 with e' | e' <;> rw [e, e'] <;> simp [z.1, z.2, bI]
          · rw [decide_eq_false z, if_pos (show bI false = 0 from rfl), decide_eq_false (fun w => z w.2)]; rfl
        simp only [f_M_walkQueues_L23, gI_n (kk201 lg), C.2.1.2.2.1, ob_v, nI_lt q (by omega), if_true, v48', cv_n (kk201 lg), e1, gR_n (kk201 l1), LR l1, rI_n (kk225 l1) (show t < 4001 by omega) (by decide), v225]
        rw [u5, u3, u4, x11, ob_v]
        simp only [ix, rI_n (kk205 l1) (show 25 * x + p.1 < 150 by omega) (by decide), rI_n (kk205 l1) (show 25 * y + p.2.1 < 150 by omega) (by decide), E1, E2, ob_v]
        rw [x24, ob_v]
        have v47 := A.2.2.1
        by_cases fz : f = 0
        · subst fz
          rw [if_pos (show nI 0 = 0 from rfl), gI_n (kk201 l1), ob_v, A.2.1]
          rw [if_pos rfl] at e
          have calm : fnd1 K (sX h x) (hX h x) (sX h y) (hX h y) (en h x) (en h y) p = 0 → OK (f_M_walkQueues_L23 201 (nI x) (nI y) (nI K) k N (nI 0) (nI t + 1) g1) Q := by
            intro z
            rw [z, if_neg (by simp)] at e
            rw [nI_1]
            exact ih (t + 1) N g1 S' 0 w (by omega) (by omega) A.1 (by decide) (fun z => absurd rfl z) e
          cases hm : mv1 K (sX h x) (hX h x) (sX h y) (hX h y) p with
          | true =>
            rw [if_neg (show ¬ bI true = 0 by decide)]
            exact calm (by unfold fnd1; rw [hm, if_pos rfl])
          | false =>
            rw [if_pos (show bI false = 0 from rfl)]
            by_cases c : (en h x p.1 = 1 ∧ en h y p.2.1 = 1) ∧ p.2.2.1 = 0 ∧ p.2.2.2 = 0
            · rw [decide_eq_true c, if_neg (show ¬ bI true = 0 by decide)]
              exact calm (by unfold fnd1; rw [hm, if_neg (by decide), if_pos c])
            · rw [decide_eq_false c, if_pos (show bI false = 0 from rfl)]
              have v1 : fnd1 K (sX h x) (hX h x) (sX h y) (hX h y) (en h x) (en h y) p = 1 := by unfold fnd1; rw [hm, if_neg (by decide), if_neg c]
              rw [v1, if_pos ⟨rfl, by decide⟩] at e
              obtain ⟨g2, e2⟩ : ∃ g2, g2 = uI g1 201 47 (nI t) := ⟨_, rfl⟩
              have p2 : pI 12 g1 201 47 (nI t) = some g2 := by rw [e2]; exact pI_n (kk201 l1)
              have f2 : Dfr SMw g1 g2 := by rw [e2]; exact Dfr.uI (by decide) (by unfold SMw; omega)
              have C2 : MWq h n m g2 S' := ⟨A.1.1.trans f2, A.1.2.1.fr (fun a k z => by rw [e2, hI_ne (by omega)]), by rw [e2, hI_ne (by omega)]; exact A.1.2.2⟩
              rw [p2, ob_v, nI_1]
              exact ih (t + 1) N g2 S' 1 t (by omega) (by omega) C2 (by decide) (fun _ => ⟨by rw [e2, hI_eq], by have := A.2.2.2.1; omega⟩) e
        · rw [if_neg (nI_ne0 (by omega) (by omega)), nI_1]
          rw [if_neg fz, if_neg (fun z => fz z.1)] at e
          exact ih (t + 1) N g1 S' f w (by omega) (by omega) A.1 f3 (fun z => ⟨by rw [v47]; exact (W z).1, by have := (W z).2; have := A.2.2.2.1; omega⟩) e
    · rw [if_neg (fun z => q z.1)] at e
      subst e
      simp only [f_M_walkQueues_L23, gI_n (kk201 lg), C.2.1.2.2.1, ob_v, nI_nlt (show S.1.1 ≤ t by omega) (by omega), if_false]
      exact hk g C f3 W
theorem queues_M (hl : Lay h) (k1 : 1 ≤ K) (k2 : K ≤ 2) (T1 : TK h x a n) (T2 : TK h y b m) (hx : x < 6) (hy : y < 6) {R : WSt × Nat × Nat} (hR' : bfs K (sX h x) (hX h x) (sX h y) (hX h y) (en h x) (en h y) 4001 0 S01 0 0 = R) :
    OK (f_M_walkQueues h 201 (nI x) (nI y) (nI K)) (fun q => q.1 = (if R.1.1.2 = true then 3 else nI R.2.1) ∧ MWq h n m q.2 R.1 ∧ R.2.1 < 3 ∧ (¬ R.2.1 = 0 → hI q.2 201 47 = nI R.2.2 ∧ R.2.2 < R.1.1.1)) := by
  obtain ⟨g1, e1, f1, c1⟩ := restart_M (cf := cM) (PD := plIn n m) hl
  have l1 := f1.lay hl
  obtain ⟨g2, e2⟩ : ∃ g2, g2 = uI g1 201 48 0 := ⟨_, rfl⟩
  have p2 : pZ 12 g1 201 48 0 = some g2 := by rw [e2]; exact pZ_n (kk201 l1) (Or.inl rfl)
  have f2 : Dfr SMw g1 g2 := by rw [e2]; exact Dfr.uI (by decide) (by unfold SMw; omega)
  have l2 := f2.lay l1
  have c2 : MK cM (plIn n m) g2 S00 := MK.fr (show MK cM (plIn n m) g1 S00 from c1) (fun a k z => by rw [e2, hI_ne (by omega)])
  obtain ⟨⟨r, g3⟩, e3, _, f3, c3⟩ := isNew_M l2 (cfq T1.1 T2.1) c2 (p := (0, 0, 0, 0)) (par := 0) (act := 0) (pi := 0) (ai := 0) ⟨Nat.zero_le _, Nat.zero_le _, Nat.zero_le _, Nat.zero_le _⟩ (fun z => absurd z (by show ¬ 0 < 0; decide))
  dsimp only at f3 c3
  have e3' : f_M_isNew g2 201 (0 : Int32) (0 : Int32) (0 : Int32) = some (r, g3) := e3
  have C : MWq h n m g3 S01 := by
    refine ⟨((f1.mono (fun a k z => Or.inl z)).trans f2).trans (f3.mono (fun a k z => Or.inl z)), c3, ?_⟩
    rw [f3.I (by unfold SMk; omega), e2, hI_eq, S01_n.2.1]; rfl
  simp only [f_M_walkQueues, cv_n (kk201 hl), e1, ob_v, p2, cv_n (kk201 l2), e3', bd2_v]
  refine walkQ_M hl k1 k2 T1 T2 hx hy _ (fun g' C' f3' W' => ?_) 4001 0 FU g3 S01 0 0 rfl (by unfold FU; omega) C (by decide) (fun z => absurd rfl z) hR'
  have l' := C'.1.lay hl
  simp only [gI_n (kk201 l'), C'.2.2, ob_v]
  cases hs : R.1.1.2 with
  | false =>
    rw [if_pos (show bI false = 0 from rfl)]
    exact OK.mk ⟨by rw [if_neg (by decide)], C', f3', W'⟩
  | true =>
    rw [if_neg (show ¬ bI true = 0 by decide)]
    exact OK.mk ⟨by rw [if_pos rfl], C', f3', W'⟩
end QW
