/-! THE CLASS'S WALK WHOLE -/
section TH
variable {h g : AH} {x y a b n m K : Nat} {S : WSt} {p : Pl} {t : Nat}
theorem exA_n {sA : Mc} : ∀ d S, S.1.1 ≤ (exA K sA t p d S).1.1
  | 0, S => Nat.le_refl _
  | d + 1, S => by
    rw [exA]
    refine Nat.le_trans ?_ (exA_n d _)
    unfold sa1
    split
    · exact rch_n
    · exact Nat.le_refl _
theorem exB_n {sB : Mc} : ∀ d S, S.1.1 ≤ (exB K sB t p d S).1.1
  | 0, S => Nat.le_refl _
  | d + 1, S => by
    rw [exB]
    refine Nat.le_trans ?_ (exB_n d _)
    unfold sb1
    split
    · exact rch_n
    · exact Nat.le_refl _
theorem hear_bit (h : AH) (x i : Nat) {u : Nat} (hu : u ≤ 72) : (hrs h x i &&& (if u = 0 then 0 else 2 ^ frt u) = 0) ↔ ¬ (0 < u ∧ ¬ hX h x i (frt u) = -1) := by
  by_cases z : u = 0
  · rw [if_pos z, Nat.and_zero]; simp [z]
  · rw [if_neg z]
    have f8 := frt_lt (by omega) hu
    have fb := hrs_bit h x i f8
    constructor
    · intro e q
      have := congrArg (fun v => v.testBit (frt u)) e
      simp only [Nat.testBit_and, Nat.testBit_two_pow_self, Bool.and_true, Nat.zero_testBit] at this
      rw [fb, decide_eq_false_iff_not] at this
      exact this q.2
    · intro q
      refine bits8 (Nat.lt_of_le_of_lt Nat.and_le_left (hrs_lt h x i)) (by decide) (fun k hk => ?_)
      rw [Nat.testBit_and, Nat.testBit_two_pow, Nat.zero_testBit]
      by_cases e : frt u = k
      · subst e
        rw [fb, decide_eq_true rfl, Bool.and_true, decide_eq_false_iff_not]
        intro w
        exact q ⟨by omega, w⟩
      · simp [e]
theorem says_any (h : AH) (x i : Nat) (c : Prop) [Decidable c] : ((if c then sys h x i else 0) = 0) ↔ (anyS (sX h x) i 8 && decide c) = false := by
  by_cases z : c
  · rw [if_pos z, decide_eq_true z, Bool.and_true]
    constructor
    · intro e
      cases u : anyS (sX h x) i 8 with
      | false => rfl
      | true =>
        obtain ⟨k, k1, k2⟩ := (anyS_iff _ _ 8).mp u
        have := congrArg (fun v => v.testBit k) e
        simp only [sys_bit _ _ _ k1, Nat.zero_testBit, decide_eq_false_iff_not] at this
        exact absurd k2 this
    · intro u
      refine bits8 (sys_lt h x i) (by decide) (fun k hk => ?_)
      rw [sys_bit _ _ _ hk, Nat.zero_testBit, decide_eq_false_iff_not]
      intro w
      have := (anyS_iff (sX h x) i 8).mpr ⟨k, hk, w⟩
      rw [u] at this; cases this
  · rw [if_neg z, decide_eq_false z, Bool.and_false]; simp
theorem or4 {a b c d : Nat} : (((a ||| b) ||| c) ||| d = 0) ↔ a = 0 ∧ b = 0 ∧ c = 0 ∧ d = 0 := by
  simp only [Nat.or_eq_zero_iff, and_assoc]
theorem act_C (hl : Lay h) (T1 : TK h x a n) (T2 : TK h y b m) (r1 : hR h 92 8 = some a) (r2 : hR h 92 9 = some b) (r10 : hI h 92 10 = nI K) (k1 : 1 ≤ K) (k2 : K ≤ 2) (C : CWk h n m g S) (ht : t < S.1.1) : OK (f_Wa_actFrom g 92 (nI t)) (fun q => q.1 = nI (fnd1 K (sX h x) (hX h x) (sX h y) (hX h y) (en h x) (en h y) (S.2.1 t)) ∧ CWk h n m q.2 (ex1 K (sX h x) (hX h x) (sX h y) (hX h y) t (S.2.1 t) S) ∧ Mor n m S (ex1 K (sX h x) (hX h x) (sX h y) (hX h y) t (S.2.1 t) S)) := by
  have t1 := T1.1
  have t2 := T2.1
  have M := mch_T T1 T2
  have lg := C.1.lay hl
  obtain ⟨p, ep⟩ : ∃ p, p = S.2.1 t := ⟨_, rfl⟩
  have hp : plIn n m p := by rw [ep]; exact C.2.2 t ht
  have pok : plOK p := ⟨by have := hp.1; omega, by have := hp.2.1; omega, hp.2.2.1, hp.2.2.2⟩
  have v93 : hI g 93 t = nI (cC p) := by rw [ep]; exact C.2.1.2.2.2.1 t ht
  have w1 := C.2.1.1.1
  have U1 := T1.ag hl.2.2.2.2.2.2 (swk_ag C.1)
  have U2 := T2.ag hl.2.2.2.2.2.2 (swk_ag C.1)
  have R1 : hR g 92 8 = some a := (C.1.R _ _).trans r1
  have R2 : hR g 92 9 = some b := (C.1.R _ _).trans r2
  have R10 : hI g 92 10 = nI K := by rw [C.1.I (by unfold SWk; omega)]; exact r10
  have q1 := U1.says hp.1
  have q2 := U1.hears hp.1
  have q3 := U2.says hp.2.1
  have q4 := U2.hears hp.2.1
  have hs : ∀ z s, sys g z s = sys h z s ∧ hrs g z s = hrs h z s := fun z s => by unfold sys hrs; rw [swk_nx C.1]; exact ⟨rfl, rfl⟩
  rw [(hs x p.1).1] at q1
  rw [(hs x p.1).2] at q2
  rw [(hs y p.2.1).1] at q3
  rw [(hs y p.2.1).2] at q4
  have x23 : ((if bI (decide (szQ p.2.2.1 < K)) = (0 : Int32) then some (0 : Int32) else some (nI (sys h x p.1))) : Option Int32) = some (nI (if szQ p.2.2.1 < K then sys h x p.1 else 0)) := by
    by_cases z : szQ p.2.2.1 < K
    · rw [decide_eq_true z, if_pos z]; rfl
    · rw [decide_eq_false z, if_neg z]; rfl
  have x30 : ((if bI (decide (szQ p.2.2.2 < K)) = (0 : Int32) then some (0 : Int32) else some (nI (sys h y p.2.1))) : Option Int32) = some (nI (if szQ p.2.2.2 < K then sys h y p.2.1 else 0)) := by
    by_cases z : szQ p.2.2.2 < K
    · rw [decide_eq_true z, if_pos z]; rfl
    · rw [decide_eq_false z, if_neg z]; rfl
  obtain ⟨qu1, qu2, qu3, qu4⟩ := q_all p.2.2.1 (by have := hp.2.2.1; omega)
  obtain ⟨qv1, qv2, qv3, qv4⟩ := q_all p.2.2.2 (by have := hp.2.2.2; omega)
  simp only [f_Wa_actFrom, gR_n (c := 10) (kk92 lg), LR lg, ob_v, rI_n (kk93 lg) (show t < 4000 by omega) (by decide), v93, un_i pok, un_j pok, un_u pok, un_v pok, R1, R2, q1.1, q1.2, q2.1, q2.2, q3.1, q3.2, q4.1, q4.2, cv_n (c := 10) (kk92 lg), room_C lg R10 k1 k2 hp.2.2.1, room_C lg R10 k1 k2 hp.2.2.2, qu3, qv3, nI_and, x23, x30]
  rw [← ep]
  refine actA_C hl k2 T1 T2 r1 hp _ _ _ _ (fun gA CA MA => ?_) ht C
  refine actB_C hl k2 T1 T2 r2 hp _ _ _ _ (fun gB CB MB => ?_) (by have := MA.2.2.1; omega) CA
  have Mr := MA.trans MB
  obtain ⟨SB, eSB⟩ : ∃ SB, SB = exB K (sX h y) t p 8 (exA K (sX h x) t p 8 S) := ⟨_, rfl⟩
  rw [← eSB] at CB MB Mr
  have hv := hear_bit h x p.1 hp.2.2.2
  have hu := hear_bit h y p.2.1 hp.2.2.1
  have hlv : hrs h x p.1 &&& (if p.2.2.2 = 0 then 0 else 2 ^ frt p.2.2.2) < 256 := Nat.lt_of_le_of_lt Nat.and_le_left (hrs_lt h x p.1)
  have hlu : hrs h y p.2.1 &&& (if p.2.2.1 = 0 then 0 else 2 ^ frt p.2.2.1) < 256 := Nat.lt_of_le_of_lt Nat.and_le_left (hrs_lt h y p.2.1)
  have zv : (nI (hrs h x p.1 &&& (if p.2.2.2 = 0 then 0 else 2 ^ frt p.2.2.2)) = 0) ↔ ¬ (0 < p.2.2.2 ∧ ¬ hX h x p.1 (frt p.2.2.2) = -1) := by
    rw [← hv, show (0 : Int32) = nI 0 from rfl, nI_eq (by omega) (by decide)]
  have zu : (nI (hrs h y p.2.1 &&& (if p.2.2.1 = 0 then 0 else 2 ^ frt p.2.2.1)) = 0) ↔ ¬ (0 < p.2.2.1 ∧ ¬ hX h y p.2.1 (frt p.2.2.1) = -1) := by
    rw [← hu, show (0 : Int32) = nI 0 from rfl, nI_eq (by omega) (by decide)]
  have lB := CB.1.lay hl
  have V1 := T1.ag hl.2.2.2.2.2.2 (swk_ag CB.1)
  have RB1 : hR gB 92 8 = some a := (CB.1.R _ _).trans r1
  -- A hears
  have third : OK (if nI (hrs h x p.1 &&& (if p.2.2.2 = 0 then 0 else 2 ^ frt p.2.2.2)) = (0 : Int32) then some gB else
          (gR 10 gB 92 8).bind fun r61 =>
          (r61).bind fun a62 =>
          (cv 9 gB a62 (f_Ta_behind gB a62 (nI p.1) (0 : Int32) ((nI (qC p.2.2.2) &&& (15 : Int32)) - (1 : Int32)))).bind fun x63 =>
          (f_Wa_place gB x63 (nI p.2.1) (nI (qC p.2.2.1)) (nI (qC p.2.2.2) >>> ((4 : Int32) &&& 31))).bind fun x64 =>
          (cv 10 gB 92 (f_Wa_reach gB 92 x64 (nI t) (16 : Int32))).bind fun h65 =>
          some (h65)) (fun g' => CWk h n m g' (ha1 (hX h x) t p SB) ∧ Mor n m SB (ha1 (hX h x) t p SB)) := by
    unfold ha1
    by_cases q : 0 < p.2.2.2 ∧ ¬ hX h x p.1 (frt p.2.2.2) = -1
    · rw [if_neg (fun z => (zv.mp z) q), if_pos q]
      have f8 := frt_lt q.1 hp.2.2.2
      obtain ⟨j1, e1⟩ := (mc_A M hp.1 f8 (by omega)).2 q.2
      have b1 := V1.behind (g := 0) hp.1 (by decide) f8
      rw [swk_nx CB.1, show 8 * 0 + frt p.2.2.2 = frt p.2.2.2 by omega, show nx h x p.1 (frt p.2.2.2) = hX h x p.1 (frt p.2.2.2) from rfl, e1] at b1
      have b1' : f_Ta_behind gB a (nI p.1) (0 : Int32) (nI (frt p.2.2.2)) = some (nI (tN (hX h x p.1 (frt p.2.2.2)))) := b1
      have pin : plIn n m (tN (hX h x p.1 (frt p.2.2.2)), p.2.1, p.2.2.1, rst p.2.2.2) := ⟨j1, hp.2.1, hp.2.2.1, rst_le hp.2.2.2⟩
      have pl := placeq gB (q := (tN (hX h x p.1 (frt p.2.2.2)), p.2.1, p.2.2.1, rst p.2.2.2)) ⟨by dsimp only; omega, by have := hp.2.1; dsimp only; omega, hp.2.2.1, rst_le hp.2.2.2⟩
      dsimp only at pl
      obtain ⟨g3, e3, c3, m3⟩ := come_C (t := t) (act := 16) hl t1 t2 CB pin (by have := Mr.2.2.1; omega) (by decide)
      have e3' : f_Wa_reach gB 92 (nI (cC (tN (hX h x p.1 (frt p.2.2.2)), p.2.1, p.2.2.1, rst p.2.2.2))) (nI t) (16 : Int32) = some g3 := e3
      simp only [gR_n (c := 10) (kk92 lB), RB1, ob_v, q_frt p.2.2.2 (by have := hp.2.2.2; omega) q.1, cv_n (c := 9) V1.2.2.2.1.1, b1', qv4, pl, cv_n (c := 10) (kk92 lB), e3']
      exact OK.mk ⟨c3, m3⟩
    · rw [if_pos (zv.mpr q), if_neg q]
      exact OK.mk ⟨CB, Mor.refl CB.2.1.1 CB.2.2⟩
  refine OK.bind (third.mono (fun gC ⟨CC, MC⟩ => ?_))
  have Mr3 := Mr.trans MC
  obtain ⟨SC, eSC⟩ : ∃ SC, SC = ha1 (hX h x) t p SB := ⟨_, rfl⟩
  rw [← eSC] at CC MC Mr3
  have lC := CC.1.lay hl
  have V2 := T2.ag hl.2.2.2.2.2.2 (swk_ag CC.1)
  have RC2 : hR gC 92 9 = some b := (CC.1.R _ _).trans r2
  have fourth : OK (if nI (hrs h y p.2.1 &&& (if p.2.2.1 = 0 then 0 else 2 ^ frt p.2.2.1)) = (0 : Int32) then some gC else
          (gR 10 gC 92 9).bind fun r67 =>
          (r67).bind fun a68 =>
          (cv 9 gC a68 (f_Ta_behind gC a68 (nI p.2.1) (0 : Int32) ((nI (qC p.2.2.1) &&& (15 : Int32)) - (1 : Int32)))).bind fun x69 =>
          (f_Wa_place gC (nI p.1) x69 (nI (qC p.2.2.1) >>> ((4 : Int32) &&& 31)) (nI (qC p.2.2.2))).bind fun x70 =>
          (cv 10 gC 92 (f_Wa_reach gC 92 x70 (nI t) (17 : Int32))).bind fun h71 =>
          some (h71)) (fun g' => CWk h n m g' (hb1 (hX h y) t p SC) ∧ Mor n m SC (hb1 (hX h y) t p SC)) := by
    unfold hb1
    by_cases q : 0 < p.2.2.1 ∧ ¬ hX h y p.2.1 (frt p.2.2.1) = -1
    · rw [if_neg (fun z => (zu.mp z) q), if_pos q]
      have f8 := frt_lt q.1 hp.2.2.1
      obtain ⟨j1, e1⟩ := (mc_B M hp.2.1 f8 (by omega)).2 q.2
      have b1 := V2.behind (g := 0) hp.2.1 (by decide) f8
      rw [swk_nx CC.1, show 8 * 0 + frt p.2.2.1 = frt p.2.2.1 by omega, show nx h y p.2.1 (frt p.2.2.1) = hX h y p.2.1 (frt p.2.2.1) from rfl, e1] at b1
      have b1' : f_Ta_behind gC b (nI p.2.1) (0 : Int32) (nI (frt p.2.2.1)) = some (nI (tN (hX h y p.2.1 (frt p.2.2.1)))) := b1
      have pin : plIn n m (p.1, tN (hX h y p.2.1 (frt p.2.2.1)), rst p.2.2.1, p.2.2.2) := ⟨hp.1, j1, rst_le hp.2.2.1, hp.2.2.2⟩
      have pl := placeq gC (q := (p.1, tN (hX h y p.2.1 (frt p.2.2.1)), rst p.2.2.1, p.2.2.2)) ⟨by have := hp.1; dsimp only; omega, by dsimp only; omega, rst_le hp.2.2.1, hp.2.2.2⟩
      dsimp only at pl
      obtain ⟨g3, e3, c3, m3⟩ := come_C (t := t) (act := 17) hl t1 t2 CC pin (by have := Mr3.2.2.1; omega) (by decide)
      have e3' : f_Wa_reach gC 92 (nI (cC (p.1, tN (hX h y p.2.1 (frt p.2.2.1)), rst p.2.2.1, p.2.2.2))) (nI t) (17 : Int32) = some g3 := e3
      simp only [gR_n (c := 10) (kk92 lC), RC2, ob_v, q_frt p.2.2.1 (by have := hp.2.2.1; omega) q.1, cv_n (c := 9) V2.2.2.2.1.1, b1', qu4, pl, cv_n (c := 10) (kk92 lC), e3']
      exact OK.mk ⟨c3, m3⟩
    · rw [if_pos (zu.mpr q), if_neg q]
      exact OK.mk ⟨CC, Mor.refl CC.2.1.1 CC.2.2⟩
  refine OK.bind (fourth.mono (fun gD ⟨CD, MD⟩ => ?_))
  have Mr4 := Mr3.trans MD
  have eD : hb1 (hX h y) t p SC = ex1 K (sX h x) (hX h x) (sX h y) (hX h y) t p S := by unfold ex1; rw [eSC, eSB]
  rw [eD] at CD Mr4
  have lD := CD.1.lay hl
  have W1 := T1.ag hl.2.2.2.2.2.2 (swk_ag CD.1)
  have W2 := T2.ag hl.2.2.2.2.2.2 (swk_ag CD.1)
  have RD1 : hR gD 92 8 = some a := (CD.1.R _ _).trans r1
  have RD2 : hR gD 92 9 = some b := (CD.1.R _ _).trans r2
  have m1 := mayEnd_T W1 hp.1
  have m2 := mayEnd_T W2 hp.2.1
  rw [swk_en CD.1] at m1 m2
  have fin : ∀ v : Nat, v = fnd1 K (sX h x) (hX h x) (sX h y) (hX h y) (en h x) (en h y) p → OK (some (nI v, gD)) (fun q => q.1 = nI (fnd1 K (sX h x) (hX h x) (sX h y) (hX h y) (en h x) (en h y) p) ∧ CWk h n m q.2 (ex1 K (sX h x) (hX h x) (sX h y) (hX h y) t p S) ∧ Mor n m S (ex1 K (sX h x) (hX h x) (sX h y) (hX h y) t p S)) := fun v e => OK.mk ⟨by rw [e], CD, Mr4⟩
  have ql1 := qC_lt hp.2.2.1
  have ql2 := qC_lt hp.2.2.2
  have zq : (nI (qC p.2.2.2 ||| qC p.2.2.1) = 0) ↔ p.2.2.1 = 0 ∧ p.2.2.2 = 0 := by
    have ol : qC p.2.2.2 ||| qC p.2.2.1 < 256 := Nat.or_lt_two_pow (n := 8) ql2 ql1
    rw [show (0 : Int32) = nI 0 from rfl, nI_eq (by omega) (by decide), Nat.or_eq_zero_iff]
    have q0 : ∀ u, qC u = 0 ↔ u = 0 := fun u => by unfold qC; split <;> omega
    rw [q0, q0]
    exact ⟨fun z => ⟨z.2, z.1⟩, fun z => ⟨z.2, z.1⟩⟩
  have x79 : ((if en h x p.1 = (0 : Int32) then some (0 : Int32) else if en h y p.2.1 = (0 : Int32) then some (0 : Int32) else if nI (qC p.2.2.2 ||| qC p.2.2.1) = (0 : Int32) then some (1 : Int32) else some (0 : Int32)) : Option Int32) = some (bI (decide ((en h x p.1 = 1 ∧ en h y p.2.1 = 1) ∧ p.2.2.1 = 0 ∧ p.2.2.2 = 0))) := by
    by_cases z : nI (qC p.2.2.2 ||| qC p.2.2.1) = 0
    · rw [if_pos z]
      have z' := zq.mp z
      rcases T1.en01 hp.1 with e | e <;> rcases T2.en01 hp.2.1 with e' | e' <;> rw [e, e'] <;> simp [z'.1, z'.2, bI]
    · rw [if_neg z]
      have z' : ¬ (p.2.2.1 = 0 ∧ p.2.2.2 = 0) := fun w => z (zq.mpr w)
      rw [decide_eq_false (fun w => z' w.2)]
      split
      · rfl
      · split <;> rfl
  simp only [gR_n (c := 10) (kk92 lD), RD1, RD2, ob_v, cv_n (c := 9) W1.2.2.2.1.1, cv_n (c := 9) W2.2.2.2.1.1, m1, m2, nI_or, x79]
  have sa := says_any h x p.1 (szQ p.2.2.1 < K)
  have sb := says_any h y p.2.1 (szQ p.2.2.2 < K)
  have sl1 := sys_lt h x p.1
  have sl2 := sys_lt h y p.2.1
  have al1 : (if szQ p.2.2.1 < K then sys h x p.1 else 0) < 256 := by split <;> omega
  have al2 : (if szQ p.2.2.2 < K then sys h y p.2.1 else 0) < 256 := by split <;> omega
  have ol : (((if szQ p.2.2.1 < K then sys h x p.1 else 0) ||| (if szQ p.2.2.2 < K then sys h y p.2.1 else 0)) ||| (hrs h x p.1 &&& (if p.2.2.2 = 0 then 0 else 2 ^ frt p.2.2.2))) ||| (hrs h y p.2.1 &&& (if p.2.2.1 = 0 then 0 else 2 ^ frt p.2.2.1)) < 256 := Nat.or_lt_two_pow (n := 8) (Nat.or_lt_two_pow (n := 8) (Nat.or_lt_two_pow (n := 8) al1 al2) hlv) hlu
  have mvI : ((((if szQ p.2.2.1 < K then sys h x p.1 else 0) ||| (if szQ p.2.2.2 < K then sys h y p.2.1 else 0)) ||| (hrs h x p.1 &&& (if p.2.2.2 = 0 then 0 else 2 ^ frt p.2.2.2))) ||| (hrs h y p.2.1 &&& (if p.2.2.1 = 0 then 0 else 2 ^ frt p.2.2.1)) = 0) ↔ mv1 K (sX h x) (hX h x) (sX h y) (hX h y) p = false := by
    rw [or4, sa, sb, hv, hu]
    unfold mv1
    rw [Bool.or_eq_false_iff, Bool.or_eq_false_iff, Bool.or_eq_false_iff, decide_eq_false_iff_not, decide_eq_false_iff_not]
    exact ⟨fun ⟨z1, z2, z3, z4⟩ => ⟨⟨⟨z1, z2⟩, z3⟩, z4⟩, fun ⟨⟨⟨z1, z2⟩, z3⟩, z4⟩ => ⟨z1, z2, z3, z4⟩⟩
  cases hm : mv1 K (sX h x) (hX h x) (sX h y) (hX h y) p with
  | false =>
    rw [if_pos (by rw [mvI.mpr hm]; rfl)]
    by_cases c : (en h x p.1 = 1 ∧ en h y p.2.1 = 1) ∧ p.2.2.1 = 0 ∧ p.2.2.2 = 0
    · rw [decide_eq_true c, if_neg (by decide)]
      exact fin 0 (by unfold fnd1; rw [hm, if_neg (by decide), if_pos c])
    · rw [decide_eq_false c, if_pos (show bI false = 0 from rfl)]
      exact fin 1 (by unfold fnd1; rw [hm, if_neg (by decide), if_neg c])
  | true =>
    rw [if_neg (fun z => by
      rw [show (0 : Int32) = nI 0 from rfl, nI_eq (by omega) (by decide)] at z
      rw [mvI.mp z] at hm; cases hm)]
    exact fin 0 (by unfold fnd1; rw [hm, if_pos rfl])
end TH
