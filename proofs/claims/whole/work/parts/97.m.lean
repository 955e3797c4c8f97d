/-! THE LOOP OVER THE SCRIPT (printed by wip/gen/gen_law.py) -/
theorem rel_init (L : Nat) (xs : Nat → Int32) : ∃ h1 h2, f_C_init (nO 0 (h00 L xs)) 4 = some h1 ∧ hM h1 = 201 ∧ f_M_init (nO 12 h1) 201 = some h2 ∧ Rel L xs h2 := by
  obtain ⟨h1, h2, e1, m1, e2, hl, m2, z2, k3, i3, it, r2, r3, j1⟩ := init_ok L xs
  have z : ∀ a k, (a, k) ∈ iTab → hI h2 a k = nI 0 := fun a k hk => it (a, k) hk
  refine ⟨h1, h2, e1, m1, e2, 0, 0, 0, 0, 0, fun _ => 0, fun _ => 0, fun _ => 0, fun _ => 0, hl, ⟨by decide, z 4 2 (by decide), z 201 2 (by decide), fun t ht => by omega⟩, ⟨by decide, z 5 1 (by decide), z 201 0 (by decide), fun i hi => by omega⟩, ⟨by decide, z 107 1 (by decide), z 201 9 (by decide), fun s hs => by omega⟩, fun f hf => ?_, ⟨by decide, z 107 4 (by decide), z 201 15 (by decide), fun i hi => by omega⟩, ⟨⟨0, by decide, z 4 6 (by decide), z 201 6 (by decide)⟩, ⟨0, by decide, z 4 7 (by decide), z 201 7 (by decide)⟩, ⟨0, by decide, z 4 9 (by decide), z 201 8 (by decide)⟩⟩, ⟨by rw [z 92 3 (by decide), z 201 35 (by decide)], 0, by decide, z 92 7 (by decide), z 201 36 (by decide), fun i hi => by omega⟩, ⟨by decide, z 135 1 (by decide), z 201 18 (by decide), ⟨0, by decide, z 201 17 (by decide)⟩, fun e he => by omega, fun t ht w hw => ?_⟩, ⟨fun t t' ht => by omega, Or.inl ⟨r2, r3⟩⟩, ⟨fun s s' hs => by omega, fun s t hs => by omega, fun t t' ht => by omega⟩, ⟨by omega, by omega⟩, ⟨by omega, k3, kk201 hl, i3⟩⟩
  · have a : ∀ f, f < 12 → (109, f) ∈ iTab ∧ (210, f) ∈ iTab := by decide
    exact ⟨by rw [z 109 f (a f hf).1, z 210 f (a f hf).2], 0, by decide, z 210 f (a f hf).2⟩
  · have : t = 0 := by omega
    subst this
    show (hJ h2 140 (w / 64)).toBitVec.getLsbD (w % 64) = decide (hI h2 201 17 = nI w)
    rw [j1 (w / 64) (by omega), z 201 17 (by decide)]
    have o1 : ∀ i, i < 64 → ((1 : Int64)).toBitVec.getLsbD i = decide (i = 0) := by decide
    by_cases q : w / 64 = 0
    · rw [if_pos q, o1 _ (by omega)]
      by_cases y : w = 0
      · subst y; rfl
      · rw [decide_eq_false (by omega), decide_eq_false (fun e => y (nI_inj (by omega) (by omega) e).symm)]
    · rw [if_neg q, decide_eq_false (fun e => by have := nI_inj (a := 0) (b := w) (by omega) (by omega) e; omega)]
      show (0#64).getLsbD (w % 64) = false
      exact BitVec.getLsbD_zero
theorem see_b (v : Int32) : ((if v = (0 : Int32) then some (0 : Int32) else some (1 : Int32)) : Option Int32) = some (bI (decide (¬ v = 0))) := by
  by_cases q : v = 0
  · rw [if_pos q, decide_eq_false (fun z => z q)]; rfl
  · rw [if_neg q, decide_eq_true q]; rfl
section LP
variable {L : Nat} {xs : Nat → Int32}
theorem law_loop (hL : L ≤ 2560) : ∀ N i (h : AH), Rel L xs h → i ≤ L + 4 → L + 5 - i < N → OK (f_L_law_L18 (some 3) 4 201 N (nI i) h) (fun q => q.1 = 1 ∧ Rel L xs q.2) := by
  intro N
  induction N with
  | zero => intro i h _ _ hN; omega
  | succ N ih =>
    intro i h R hi hN
    have R0 := R
    obtain ⟨tn, pn, hn, rn, ev, ta, ts, pg, ha, hl, rt, rp, rh, rl, rr, rc, rj, rg, ra, dj, bd, p⟩ := R
    have al : alen 1 h 3 = some (nI L) := by unfold alen; rw [p.2.1]; rfl
    have cmp : (nI L - (5 : Int32) < nI i) ↔ L < i + 5 := by
      have e1 : (nI L - (5 : Int32)).toInt = (L : Int) - 5 := pk_sub_toInt (a := L) (b := 5) (by omega) (by decide)
      rw [Int32.lt_iff_toInt_lt, e1, nI_toInt (by omega)]
      omega
    rw [f_L_law_L18, ob_v, al, ob_v]
    by_cases q : L < i + 5
    · rw [if_pos (cmp.mpr q)]
      exact OK.mk ⟨rfl, R0⟩
    · rw [if_neg (fun z => q (cmp.mp z))]
      have rd : ∀ g, P3 L xs g → ∀ k, k < 5 → rI 1 g 3 (nI (i + k)) = some (xs (i + k)) := fun g pg k hk => by rw [rI_n pg.2.1 (show i + k < L by omega) (by omega), pg.2.2.2]
      have r0 : rI 1 h 3 (nI i) = some (xs i) := rd h p 0 (by decide)
      have r1 : ∀ g, P3 L xs g → rI 1 g 3 (nI i + 1) = some (xs (i + 1)) := fun g pg => by rw [show nI i + 1 = nI (i + 1) from nI_add i 1]; exact rd g pg 1 (by decide)
      have r2 : ∀ g, P3 L xs g → rI 1 g 3 (nI i + 2) = some (xs (i + 2)) := fun g pg => by rw [show nI i + 2 = nI (i + 2) from nI_add i 2]; exact rd g pg 2 (by decide)
      have r3 : ∀ g, P3 L xs g → rI 1 g 3 (nI i + 3) = some (xs (i + 3)) := fun g pg => by rw [show nI i + 3 = nI (i + 3) from nI_add i 3]; exact rd g pg 3 (by decide)
      have r4 : ∀ g, P3 L xs g → rI 1 g 3 (nI i + 4) = some (xs (i + 4)) := fun g pg => by rw [show nI i + 4 = nI (i + 4) from nI_add i 4]; exact rd g pg 4 (by decide)
      have next : ∀ g, Rel L xs g → OK (f_L_law_L18 (some 3) 4 201 N (nI i + (5 : Int32)) g) (fun q => q.1 = 1 ∧ Rel L xs q.2) := fun g Rg => by
        rw [show nI i + 5 = nI (i + 5) from nI_add i 5]
        exact ih (i + 5) g Rg (by omega) (by omega)
      rw [r0, ob_v]
      obtain ⟨c, ec⟩ : ∃ c, c = xs i &&& (63 : Int32) := ⟨_, rfl⟩
      rw [← ec]
      refine OK.ite (fun _ => ?_) (fun _ => ?_)
      · obtain ⟨r, h1, h2, e1, e2, p1, R2⟩ := r_letters R0 ((xlshl ((xs (i + 1)).toInt64) (32 : Int32)) ||| (((xs (i + 2)).toInt64) &&& (4294967295 : Int64)))
        simp only [r1 h p, r2 h p, ob_v, cv_n (kk4 hl), e1, bd2_v, r1 h1 p1, r2 h1 p1, cv_n (c := 12) p1.2.2.1, e2]
        rw [if_pos trivial]
        exact next h2 R2
      refine OK.ite (fun _ => ?_) (fun _ => ?_)
      · obtain ⟨r, h1, h2, e1, e2, p1, R2⟩ := r_blank R0 
        simp only [ ob_v, cv_n (kk4 hl), e1, bd2_v,  cv_n (c := 12) p1.2.2.1, e2]
        rw [if_pos trivial]
        exact next h2 R2
      refine OK.ite (fun _ => ?_) (fun _ => ?_)
      · obtain ⟨r, h1, h2, e1, e2, p1, R2⟩ := r_good R0 
        simp only [ ob_v, cv_n (kk4 hl), e1, bd2_v,  cv_n (c := 12) p1.2.2.1, e2]
        rw [if_pos trivial]
        exact next h2 R2
      refine OK.ite (fun _ => ?_) (fun _ => ?_)
      · obtain ⟨r, h1, h2, e1, e2, p1, R2⟩ := r_talk R0 
        simp only [ ob_v, cv_n (kk4 hl), e1, bd2_v,  cv_n (c := 12) p1.2.2.1, e2]
        rw [if_pos trivial]
        exact next h2 R2
      refine OK.ite (fun _ => ?_) (fun _ => ?_)
      · obtain ⟨r, e1, e2⟩ := o_steps hl rt (xs (i + 1))
        simp only [r1 h p, ob_v, cv_n (kk4 hl), e1, cv_n (kk201 hl), e2]
        rw [if_pos trivial]
        exact next h R0
      refine OK.ite (fun _ => ?_) (fun _ => ?_)
      · obtain ⟨r, e1, e2⟩ := o_next hl rt (xs (i + 1)) (xs (i + 2)) (xs (i + 3)) (xs (i + 4))
        simp only [r1 h p, r2 h p, r3 h p, r4 h p, ob_v, cv_n (kk4 hl), e1, cv_n (kk201 hl), e2]
        rw [if_pos trivial]
        exact next h R0
      refine OK.ite (fun _ => ?_) (fun _ => ?_)
      · obtain ⟨r, e1, e2⟩ := o_ends hl rt (xs (i + 1)) (xs (i + 2))
        simp only [r1 h p, r2 h p, ob_v, cv_n (kk4 hl), e1, cv_n (kk201 hl), e2]
        rw [if_pos trivial]
        exact next h R0
      refine OK.ite (fun _ => ?_) (fun _ => ?_)
      · obtain ⟨r, e1, e2⟩ := o_uses hl rt (xs (i + 1)) (xs (i + 2))
        simp only [r1 h p, r2 h p, ob_v, cv_n (kk4 hl), e1, cv_n (kk201 hl), e2]
        rw [if_pos trivial]
        exact next h R0
      refine OK.ite (fun _ => ?_) (fun _ => ?_)
      · obtain ⟨r, h1, h2, e1, e2, p1, R2⟩ := r_join R0 (xs (i + 1)) (xs (i + 2)) (xs (i + 3))
        simp only [r1 h p, r2 h p, r3 h p, ob_v, cv_n (kk4 hl), e1, bd2_v, r1 h1 p1, r2 h1 p1, r3 h1 p1, cv_n (c := 12) p1.2.2.1, e2]
        rw [if_pos trivial]
        exact next h2 R2
      refine OK.ite (fun _ => ?_) (fun _ => ?_)
      · obtain ⟨r, e1, e2⟩ := o_walked hl rj 
        simp only [ ob_v, cv_n (kk4 hl), e1, cv_n (kk201 hl), e2]
        rw [if_pos trivial]
        exact next h R0
      refine OK.ite (fun _ => ?_) (fun _ => ?_)
      · obtain ⟨r, e1, e2⟩ := o_trace hl rj (xs (i + 1))
        simp only [r1 h p, ob_v, cv_n (kk4 hl), e1, cv_n (kk201 hl), e2]
        rw [if_pos trivial]
        exact next h R0
      refine OK.ite (fun _ => ?_) (fun _ => ?_)
      · obtain ⟨r, h1, h2, e1, e2, p1, R2⟩ := r_fit R0 (xs (i + 1)) (xs (i + 2))
        simp only [r1 h p, r2 h p, ob_v, cv_n (kk4 hl), e1, bd2_v, r1 h1 p1, r2 h1 p1, cv_n (c := 12) p1.2.2.1, e2]
        rw [if_pos trivial]
        exact next h2 R2
      refine OK.ite (fun _ => ?_) (fun _ => ?_)
      · obtain ⟨r, h1, h2, e1, e2, p1, R2⟩ := r_swap R0 (xs (i + 1)) (xs (i + 2)) (xs (i + 3))
        simp only [r1 h p, r2 h p, r3 h p, ob_v, cv_n (kk4 hl), e1, bd2_v, r1 h1 p1, r2 h1 p1, r3 h1 p1, cv_n (c := 12) p1.2.2.1, e2]
        rw [if_pos trivial]
        exact next h2 R2
      refine OK.ite (fun _ => ?_) (fun _ => ?_)
      · obtain ⟨r, h1, h2, e1, e2, p1, R2⟩ := r_adapters R0 (xs (i + 1)) (xs (i + 2))
        simp only [r1 h p, r2 h p, ob_v, cv_n (kk4 hl), e1, bd2_v, r1 h1 p1, r2 h1 p1, cv_n (c := 12) p1.2.2.1, e2]
        rw [if_pos trivial]
        exact next h2 R2
      refine OK.ite (fun _ => ?_) (fun _ => ?_)
      · obtain ⟨r, h1, h2, e1, e2, p1, R2⟩ := r_adapter R0 (xs (i + 1)) (xs (i + 2)) (xs (i + 3)) (xs (i + 4))
        simp only [r1 h p, r2 h p, r3 h p, r4 h p, ob_v, cv_n (kk4 hl), e1, bd2_v, r1 h1 p1, r2 h1 p1, r3 h1 p1, r4 h1 p1, cv_n (c := 12) p1.2.2.1, e2]
        rw [if_pos trivial]
        exact next h2 R2
      refine OK.ite (fun _ => ?_) (fun _ => ?_)
      · obtain ⟨r, h1, h2, e1, e2, p1, R2⟩ := r_helper R0 (xs (i + 1)) (xs (i + 2)) (xs (i + 3))
        simp only [r1 h p, r2 h p, r3 h p, ob_v, cv_n (kk4 hl), e1, bd2_v, r1 h1 p1, r2 h1 p1, r3 h1 p1, cv_n (c := 12) p1.2.2.1, e2]
        rw [if_pos trivial]
        exact next h2 R2
      refine OK.ite (fun _ => ?_) (fun _ => ?_)
      · obtain ⟨r, h1, h2, e1, e2, p1, R2⟩ := r_set R0 (xs (i + 1)) (xs (i + 2)) (xs (i + 3))
        simp only [r1 h p, r2 h p, r3 h p, ob_v, cv_n (kk4 hl), e1, bd2_v, r1 h1 p1, r2 h1 p1, r3 h1 p1, cv_n (c := 12) p1.2.2.1, e2]
        rw [if_pos trivial]
        exact next h2 R2
      refine OK.ite (fun _ => ?_) (fun _ => ?_)
      · obtain ⟨r, h1, h2, e1, e2, p1, R2⟩ := r_level R0 (xs (i + 1)) (xs (i + 2))
        simp only [r1 h p, r2 h p, ob_v, cv_n (kk4 hl), e1, bd2_v, r1 h1 p1, r2 h1 p1, cv_n (c := 12) p1.2.2.1, e2]
        rw [if_pos trivial]
        exact next h2 R2
      refine OK.ite (fun _ => ?_) (fun _ => ?_)
      · obtain ⟨r, e1, e2⟩ := o_about hl rh (xs (i + 1)) (xs (i + 2))
        simp only [r1 h p, r2 h p, ob_v, cv_n (kk4 hl), e1, cv_n (kk201 hl), e2]
        rw [if_pos trivial]
        exact next h R0
      refine OK.ite (fun _ => ?_) (fun _ => ?_)
      · obtain ⟨r, h1, h2, e1, e2, p1, R2⟩ := r_put R0 (xs (i + 1))
        simp only [r1 h p, ob_v, cv_n (kk4 hl), e1, bd2_v, r1 h1 p1, cv_n (c := 12) p1.2.2.1, e2]
        rw [if_pos trivial]
        exact next h2 R2
      refine OK.ite (fun _ => ?_) (fun _ => ?_)
      · obtain ⟨r, h1, h2, e1, e2, p1, R2⟩ := r_empty R0 
        simp only [ ob_v, cv_n (kk4 hl), e1, bd2_v,  cv_n (c := 12) p1.2.2.1, e2]
        rw [if_pos trivial]
        exact next h2 R2
      refine OK.ite (fun _ => ?_) (fun _ => ?_)
      · obtain ⟨r, e1, e2⟩ := o_at hl rr (xs (i + 1))
        simp only [r1 h p, ob_v, cv_n (kk4 hl), e1, cv_n (kk201 hl), e2]
        rw [if_pos trivial]
        exact next h R0
      refine OK.ite (fun _ => ?_) (fun _ => ?_)
      · obtain ⟨r, h1, h2, e1, e2, p1, R2⟩ := r_stops R0 (xs (i + 1))
        simp only [r1 h p, ob_v, cv_n (kk4 hl), e1, bd2_v, r1 h1 p1, cv_n (c := 12) p1.2.2.1, e2]
        rw [if_pos trivial]
        exact next h2 R2
      refine OK.ite (fun _ => ?_) (fun _ => ?_)
      · obtain ⟨r, h1, h2, e1, e2, p1, R2⟩ := r_after R0 (xs (i + 1))
        simp only [r1 h p, ob_v, cv_n (kk4 hl), e1, bd2_v, r1 h1 p1, cv_n (c := 12) p1.2.2.1, e2]
        rw [if_pos trivial]
        exact next h2 R2
      refine OK.ite (fun _ => ?_) (fun _ => ?_)
      · obtain ⟨r, h1, h2, e1, e2, p1, R2⟩ := r_taint R0 (xs (i + 1)) (xs (i + 2))
        simp only [r1 h p, r2 h p, ob_v, cv_n (kk4 hl), e1, bd2_v, r1 h1 p1, r2 h1 p1, cv_n (c := 12) p1.2.2.1, e2]
        rw [if_pos trivial]
        exact next h2 R2
      refine OK.ite (fun _ => ?_) (fun _ => ?_)
      · obtain ⟨r, e1, e2⟩ := o_costs hl rh rr 
        simp only [ ob_v, cv_n (kk4 hl), e1, cv_n (kk201 hl), e2]
        rw [if_pos trivial]
        exact next h R0
      refine OK.ite (fun _ => ?_) (fun _ => ?_)
      · obtain ⟨r, h1, h2, e1, e2, p1, R2⟩ := r_plan R0 (xs (i + 1)) (xs (i + 2)) (xs (i + 3))
        simp only [r1 h p, r2 h p, r3 h p, ob_v, cv_n (kk4 hl), e1, bd2_v, r1 h1 p1, r2 h1 p1, r3 h1 p1, cv_n (c := 12) p1.2.2.1, e2]
        rw [if_pos trivial]
        exact next h2 R2
      refine OK.ite (fun _ => ?_) (fun _ => ?_)
      · obtain ⟨r, e1, e2⟩ := o_chance hl rh rr (xs (i + 1)) (xs (i + 2))
        simp only [r1 h p, r2 h p, ob_v, cv_n (kk4 hl), e1, cv_n (kk201 hl), e2]
        rw [if_pos ((lg_eq _ _).mpr rfl)]
        exact next h R0
      refine OK.ite (fun _ => ?_) (fun _ => ?_)
      · obtain ⟨r, e1, e2⟩ := o_mean hl rh rr (xs (i + 1)) (xs (i + 2))
        simp only [r1 h p, r2 h p, ob_v, cv_n (kk4 hl), e1, cv_n (kk201 hl), e2]
        rw [if_pos ((lg_eq _ _).mpr rfl)]
        exact next h R0
      refine OK.ite (fun _ => ?_) (fun _ => ?_)
      · obtain ⟨r, h1, h2, e1, e2, p1, R2⟩ := r_undone R0 (xs (i + 1))
        simp only [r1 h p, ob_v, cv_n (kk4 hl), e1, bd2_v, r1 h1 p1, cv_n (c := 12) p1.2.2.1, e2]
        rw [if_pos trivial]
        exact next h2 R2
      refine OK.ite (fun _ => ?_) (fun _ => ?_)
      · obtain ⟨r, h1, h2, e1, e2, p1, R2⟩ := r_begin R0 (xs (i + 1))
        simp only [r1 h p, ob_v, cv_n (kk4 hl), e1, bd2_v, r1 h1 p1, cv_n (c := 12) p1.2.2.1, e2]
        rw [if_pos trivial]
        exact next h2 R2
      refine OK.ite (fun _ => ?_) (fun _ => ?_)
      · obtain ⟨r, h1, h2, e1, e2, p1, R2⟩ := r_call R0 (xs (i + 1)) (xs (i + 2))
        simp only [r1 h p, r2 h p, ob_v, cv_n (kk4 hl), e1, bd2_v, r1 h1 p1, r2 h1 p1, cv_n (c := 12) p1.2.2.1, e2]
        rw [if_pos trivial]
        exact next h2 R2
      refine OK.ite (fun _ => ?_) (fun _ => ?_)
      · obtain ⟨r, h1, h2, e1, e2, p1, R2⟩ := r_see R0 (xs (i + 1)) (decide (¬ xs (i + 2) = 0))
        simp only [r1 h p, r2 h p, see_b, ob_v, cv_n (kk4 hl), e1, bd2_v, r1 h1 p1, r2 h1 p1, cv_n (c := 12) p1.2.2.1, e2]
        rw [if_pos trivial]
        exact next h2 R2
      refine OK.ite (fun _ => ?_) (fun _ => ?_)
      · obtain ⟨r, h1, h2, e1, e2, p1, R2⟩ := r_strike R0 
        simp only [ ob_v, cv_n (kk4 hl), e1, bd2_v,  cv_n (c := 12) p1.2.2.1, e2]
        rw [if_pos trivial]
        exact next h2 R2
      refine OK.ite (fun _ => ?_) (fun _ => ?_)
      · obtain ⟨r, h2, e1, e2, R2⟩ := r_worlds R0 (xs (i + 1))
        simp only [r1 h p, ob_v, cv_n (kk4 hl), e1, cv_n (kk201 hl), e2, bd2_v]
        rw [if_pos trivial]
        exact next h2 R2
      refine OK.ite (fun _ => ?_) (fun _ => ?_)
      · obtain ⟨r, h2, e1, e2, R2⟩ := r_held R0 (xs (i + 1))
        simp only [r1 h p, ob_v, cv_n (kk4 hl), e1, cv_n (kk201 hl), e2, bd2_v]
        rw [if_pos trivial]
        exact next h2 R2
      refine OK.ite (fun _ => ?_) (fun _ => ?_)
      · obtain ⟨r, h2, e1, e2, R2⟩ := r_world R0 (xs (i + 1))
        simp only [r1 h p, ob_v, cv_n (kk4 hl), e1, cv_n (kk201 hl), e2, bd2_v]
        rw [if_pos trivial]
        exact next h2 R2
      refine OK.ite (fun _ => ?_) (fun _ => ?_)
      · obtain ⟨r, h2, e1, e2, R2⟩ := r_broken R0 
        simp only [ ob_v, cv_n (kk4 hl), e1, cv_n (kk201 hl), e2, bd2_v]
        rw [if_pos trivial]
        exact next h2 R2
      refine OK.ite (fun _ => ?_) (fun _ => ?_)
      · obtain ⟨r, h2, e1, e2, R2⟩ := r_again R0 (xs (i + 1))
        simp only [r1 h p, ob_v, cv_n (kk4 hl), e1, cv_n (kk201 hl), e2, bd2_v]
        rw [if_pos trivial]
        exact next h2 R2
      refine OK.ite (fun _ => ?_) (fun _ => ?_)
      · obtain ⟨r, e1, e2⟩ := o_count hl rt rp rh rg rc rr (xs (i + 1))
        simp only [r1 h p, ob_v, cv_n (kk4 hl), e1, cv_n (kk201 hl), e2]
        rw [if_pos trivial]
        exact next h R0
      refine OK.ite (fun _ => ?_) (fun _ => ?_)
      · obtain ⟨r, h2, e1, e2, R2⟩ := r_digest R0 
        simp only [ ob_v, cv_n (kk4 hl), e1, cv_n (kk201 hl), e2, bd2_v]
        rw [if_pos ((lg_eq _ _).mpr rfl)]
        exact next h2 R2
      exact next h R0
end LP
