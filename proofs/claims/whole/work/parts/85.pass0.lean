/-! what a place at once shows -/
theorem bits8 {a b : Nat} (ha : a < 256) (hb : b < 256) (e : ∀ i, i < 8 → a.testBit i = b.testBit i) : a = b := by
  apply Nat.eq_of_testBit_eq
  intro i
  by_cases hi : i < 8
  · exact e i hi
  · rw [Nat.testBit_lt_two_pow (Nat.lt_of_lt_of_le ha (Nat.pow_le_pow_right (n := 2) (by decide) (show 8 ≤ i by omega))), Nat.testBit_lt_two_pow (Nat.lt_of_lt_of_le hb (Nat.pow_le_pow_right (n := 2) (by decide) (show 8 ≤ i by omega)))]
theorem unh_iff (sA hA sB hB : Mc) (p : Pl) : ∀ n, unh sA hA sB hB p n = true ↔ ∃ k, k < n ∧ ((¬ sA p.1 k = -1 ∧ hB p.2.1 k = -1) ∨ (¬ sB p.2.1 k = -1 ∧ hA p.1 k = -1))
  | 0 => by simp [unh]
  | n + 1 => by
    rw [unh, Bool.or_eq_true, unh_iff sA hA sB hB p n, Bool.or_eq_true, decide_eq_true_eq, decide_eq_true_eq]
    constructor
    · rintro (⟨k, k1, k2⟩ | k2)
      · exact ⟨k, by omega, k2⟩
      · exact ⟨n, by omega, k2⟩
    · rintro ⟨k, k1, k2⟩
      by_cases e : k = n
      · subst e; exact Or.inr k2
      · exact Or.inl ⟨k, by omega, k2⟩
theorem mvd_iff (sA hA sB hB : Mc) (p : Pl) : ∀ n, mvd sA hA sB hB p n = true ↔ ∃ k, k < n ∧ ((¬ sA p.1 k = -1 ∧ ¬ hB p.2.1 k = -1) ∨ (¬ sB p.2.1 k = -1 ∧ ¬ hA p.1 k = -1))
  | 0 => by simp [mvd]
  | n + 1 => by
    rw [mvd, Bool.or_eq_true, mvd_iff sA hA sB hB p n, Bool.or_eq_true, decide_eq_true_eq, decide_eq_true_eq]
    constructor
    · rintro (⟨k, k1, k2⟩ | k2)
      · exact ⟨k, by omega, k2⟩
      · exact ⟨n, by omega, k2⟩
    · rintro ⟨k, k1, k2⟩
      by_cases e : k = n
      · subst e; exact Or.inr k2
      · exact Or.inl ⟨k, by omega, k2⟩
section PF
variable {h g : AH} {x y a b n m : Nat} {S : WSt} {p : Pl} {t : Nat}
theorem andb (h : AH) (x y : Nat) (i j : Nat) {k : Nat} (hk : k < 8) : (sys h x i &&& hrs h y j).testBit k = decide (¬ sX h x i k = -1 ∧ ¬ hX h y j k = -1) := by
  rw [Nat.testBit_and, sys_bit _ _ _ hk, hrs_bit _ _ _ hk]; unfold sX hX; rw [Bool.decide_and]
theorem and256 (h : AH) (x y : Nat) (i j : Nat) : sys h x i &&& hrs h y j < 256 := Nat.lt_of_le_of_lt Nat.and_le_left (sys_lt h x i)
theorem sub_all (h : AH) (x y i j : Nat) : (sys h x i &&& hrs h y j = sys h x i) ↔ ∀ k, k < 8 → ¬ (¬ sX h x i k = -1 ∧ hX h y j k = -1) := by
  constructor
  · intro e k hk q
    have := congrArg (fun v => v.testBit k) e
    simp only [andb h x y i j hk, sys_bit _ _ _ hk] at this
    have d : decide (¬ nx h x i (8 + k) = -1) = true := decide_eq_true q.1
    rw [d, decide_eq_true_eq] at this
    exact this.2 q.2
  · intro hh
    refine bits8 (and256 h x y i j) (sys_lt h x i) (fun k hk => ?_)
    rw [andb h x y i j hk, sys_bit _ _ _ hk]
    apply decide_eq_decide.mpr
    constructor
    · intro q; exact q.1
    · intro q; exact ⟨q, fun z => hh k hk ⟨q, z⟩⟩
theorem none_all (h : AH) (x y i j : Nat) : ((sys h x i &&& hrs h y j) ||| (sys h y j &&& hrs h x i) = 0) ↔ ∀ k, k < 8 → ¬ ((¬ sX h x i k = -1 ∧ ¬ hX h y j k = -1) ∨ (¬ sX h y j k = -1 ∧ ¬ hX h x i k = -1)) := by
  constructor
  · intro e k hk q
    have := congrArg (fun v => v.testBit k) e
    simp only [Nat.testBit_or, andb h x y i j hk, andb h y x j i hk, Nat.zero_testBit, Bool.or_eq_false_iff, decide_eq_false_iff_not] at this
    rcases q with q | q
    · exact this.1 q
    · exact this.2 q
  · intro hh
    refine bits8 (Nat.or_lt_two_pow (n := 8) (and256 h x y i j) (and256 h y x j i)) (by decide) (fun k hk => ?_)
    rw [Nat.testBit_or, andb h x y i j hk, andb h y x j i hk, Nat.zero_testBit, Bool.or_eq_false_iff, decide_eq_false_iff_not, decide_eq_false_iff_not]
    exact ⟨fun q => hh k hk (Or.inl q), fun q => hh k hk (Or.inr q)⟩
theorem en_if (e1 e2 : Int32) (h1 : e1 = 0 ∨ e1 = 1) (h2 : e2 = 0 ∨ e2 = 1) : ((if e1 = (0 : Int32) then some (0 : Int32) else if e2 = (0 : Int32) then some (0 : Int32) else some (1 : Int32)) : Option Int32) = some (bI (decide (e1 = 1 ∧ e2 = 1))) := by
  rcases h1 with rfl | rfl <;> rcases h2 with rfl | rfl <;> rfl
theorem pass_C (hl : Lay h) (T1 : TK h x a n) (T2 : TK h y b m) (r1 : hR h 92 8 = some a) (r2 : hR h 92 9 = some b) (C : CWk h n m g S) (ht : t < S.1.1) : OK (f_Wa_passFrom g 92 (nI t)) (fun q => q.1 = nI (fnd0 (sX h x) (hX h x) (sX h y) (hX h y) (en h x) (en h y) (S.2.1 t)) ∧ CWk h n m q.2 (ex0 (sX h x) (hX h x) (sX h y) (hX h y) t (S.2.1 t) 8 S) ∧ Mor n m S (ex0 (sX h x) (hX h x) (sX h y) (hX h y) t (S.2.1 t) 8 S)) := by
  have t1 := T1.1
  have t2 := T2.1
  have lg := C.1.lay hl
  obtain ⟨p, ep⟩ : ∃ p, p = S.2.1 t := ⟨_, rfl⟩
  have hp : plIn n m p := by rw [ep]; exact C.2.2 t ht
  have pok : plOK p := ⟨by have := hp.1; omega, by have := hp.2.1; omega, hp.2.2.1, hp.2.2.2⟩
  have v93 : hI g 93 t = nI (cC p) := by rw [ep]; exact C.2.1.2.2.2.1 t ht
  have w1 := C.2.1.1.1
  have U1 := T1.ag hl.2.2.2.2.2.2 (swk_ag C.1)
  have U2 := T2.ag hl.2.2.2.2.2.2 (swk_ag C.1)
  have R1 : hR g 92 8 = some a := (C.1.R _ _).trans r1
  have R2 : hR g 92 9 = some b := (C.1.R _ _).trans r2
  have q1 := U1.says hp.1
  have q2 := U1.hears hp.1
  have q3 := U2.says hp.2.1
  have q4 := U2.hears hp.2.1
  have hs : ∀ z s, sys g z s = sys h z s ∧ hrs g z s = hrs h z s := fun z s => by unfold sys hrs; rw [swk_nx C.1]; exact ⟨rfl, rfl⟩
  rw [(hs x p.1).1] at q1
  rw [(hs x p.1).2] at q2
  rw [(hs y p.2.1).1] at q3
  rw [(hs y p.2.1).2] at q4
  simp only [f_Wa_passFrom, gR_n (c := 10) (kk92 lg), LR lg, ob_v, rI_n (kk93 lg) (show t < 4000 by omega) (by decide), v93, un_i pok, un_j pok, R1, R2, q1.1, q1.2, q2.1, q2.2, q3.1, q3.2, q4.1, q4.2, nI_and]
  rw [← ep]
  refine pass0_C hl T1 T2 r1 r2 hp _ (fun g' C' M' => ?_) ht C
  have l' := C'.1.lay hl
  have V1 := T1.ag hl.2.2.2.2.2.2 (swk_ag C'.1)
  have V2 := T2.ag hl.2.2.2.2.2.2 (swk_ag C'.1)
  have R1' : hR g' 92 8 = some a := (C'.1.R _ _).trans r1
  have R2' : hR g' 92 9 = some b := (C'.1.R _ _).trans r2
  have hs' : ∀ z s, sys g' z s = sys h z s := fun z s => by unfold sys; rw [swk_nx C'.1]
  have q1' := V1.says hp.1
  have q3' := V2.says hp.2.1
  rw [hs' x p.1] at q1'
  rw [hs' y p.2.1] at q3'
  have m1 := mayEnd_T V1 hp.1
  have m2 := mayEnd_T V2 hp.2.1
  rw [swk_en C'.1] at m1 m2
  have sl1 := sys_lt h x p.1
  have sl2 := sys_lt h y p.2.1
  have al1 := and256 h x y p.1 p.2.1
  have al2 := and256 h y x p.2.1 p.1
  have ol : (sys h x p.1 &&& hrs h y p.2.1) ||| (sys h y p.2.1 &&& hrs h x p.1) < 256 := Nat.or_lt_two_pow (n := 8) al1 al2
  simp only [gR_n (c := 10) (kk92 l'), R1', R2', ob_v, q1'.1, q1'.2, q3'.1, q3'.2, cv_n (c := 9) V1.2.2.2.1.1, cv_n (c := 9) V2.2.2.2.1.1, m1, m2, en_if _ _ (T1.en01 hp.1) (T2.en01 hp.2.1), nI_or]
  have fin : ∀ v : Nat, v = fnd0 (sX h x) (hX h x) (sX h y) (hX h y) (en h x) (en h y) p → OK (some (nI v, g')) (fun q => q.1 = nI (fnd0 (sX h x) (hX h x) (sX h y) (hX h y) (en h x) (en h y) p) ∧ CWk h n m q.2 (ex0 (sX h x) (hX h x) (sX h y) (hX h y) t p 8 S) ∧ Mor n m S (ex0 (sX h x) (hX h x) (sX h y) (hX h y) t p 8 S)) := fun v e => OK.mk ⟨by rw [e], C', M'⟩
  have s1 := sub_all h x y p.1 p.2.1
  have s2 := sub_all h y x p.2.1 p.1
  have s3 := none_all h x y p.1 p.2.1
  by_cases c1 : sys h x p.1 &&& hrs h y p.2.1 = sys h x p.1
  · rw [if_pos (by rw [c1])]
    by_cases c2 : sys h y p.2.1 &&& hrs h x p.1 = sys h y p.2.1
    · rw [if_pos (by rw [c2])]
      have nu : unh (sX h x) (hX h x) (sX h y) (hX h y) p 8 = false := by
        cases u : unh (sX h x) (hX h x) (sX h y) (hX h y) p 8 with
        | false => rfl
        | true =>
          obtain ⟨k, k1, k2 | k2⟩ := (unh_iff _ _ _ _ _ 8).mp u
          · exact absurd k2 (s1.mp c1 k k1)
          · exact absurd k2 (s2.mp c2 k k1)
      by_cases c3 : (sys h x p.1 &&& hrs h y p.2.1) ||| (sys h y p.2.1 &&& hrs h x p.1) = 0
      · rw [if_pos (by rw [c3]; rfl)]
        have nm : mvd (sX h x) (hX h x) (sX h y) (hX h y) p 8 = false := by
          cases u : mvd (sX h x) (hX h x) (sX h y) (hX h y) p 8 with
          | false => rfl
          | true =>
            obtain ⟨k, k1, k2⟩ := (mvd_iff _ _ _ _ _ 8).mp u
            exact absurd k2 (s3.mp c3 k k1)
        by_cases c4 : en h x p.1 = 1 ∧ en h y p.2.1 = 1
        · rw [decide_eq_true c4, if_neg (by decide)]
          exact fin 0 (by unfold fnd0; rw [nu, nm, if_neg (by decide), if_neg (by decide), if_pos c4])
        · rw [decide_eq_false c4, if_pos (show bI false = 0 from rfl)]
          exact fin 1 (by unfold fnd0; rw [nu, nm, if_neg (by decide), if_neg (by decide), if_neg c4])
      · rw [if_neg (nI_ne0 (Nat.pos_of_ne_zero c3) (by omega))]
        have nm : mvd (sX h x) (hX h x) (sX h y) (hX h y) p 8 = true := by
          apply Classical.byContradiction
          intro u
          exact c3 (s3.mpr (fun k hk q => u ((mvd_iff _ _ _ _ _ 8).mpr ⟨k, hk, q⟩)))
        exact fin 0 (by unfold fnd0; rw [nu, nm, if_neg (by decide), if_pos rfl])
    · rw [if_neg (fun z => c2 (nI_inj (by omega) (by omega) z))]
      have nu : unh (sX h x) (hX h x) (sX h y) (hX h y) p 8 = true := by
        apply Classical.byContradiction
        intro u
        exact c2 (s2.mpr (fun k hk q => u ((unh_iff _ _ _ _ _ 8).mpr ⟨k, hk, Or.inr q⟩)))
      exact fin 2 (by unfold fnd0; rw [nu, if_pos rfl])
  · rw [if_neg (fun z => c1 (nI_inj (by omega) (by omega) z))]
    have nu : unh (sX h x) (hX h x) (sX h y) (hX h y) p 8 = true := by
      apply Classical.byContradiction
      intro u
      exact c1 (s1.mpr (fun k hk q => u ((unh_iff _ _ _ _ _ 8).mpr ⟨k, hk, Or.inl q⟩)))
    exact fin 2 (by unfold fnd0; rw [nu, if_pos rfl])
end PF
