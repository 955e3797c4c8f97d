/-! ONE PLACE'S STEPS, at once and by queues -/
abbrev Mc := Nat → Nat → Int32
def tN (v : Int32) : Nat := v.toNatClampNeg
def st0 (sA hA sB hB : Mc) (t : Nat) (p : Pl) (S : WSt) (k : Nat) : WSt :=
  if ¬ sB p.2.1 k = -1 ∧ ¬ hA p.1 k = -1 then rch (if ¬ sA p.1 k = -1 ∧ ¬ hB p.2.1 k = -1 then rch S (tN (sA p.1 k), tN (hB p.2.1 k), 0, 0) t (2 * k) else S) (tN (hA p.1 k), tN (sB p.2.1 k), 0, 0) t (2 * k + 1)
  else (if ¬ sA p.1 k = -1 ∧ ¬ hB p.2.1 k = -1 then rch S (tN (sA p.1 k), tN (hB p.2.1 k), 0, 0) t (2 * k) else S)
def ex0 (sA hA sB hB : Mc) (t : Nat) (p : Pl) : Nat → WSt → WSt
  | 0, S => S
  | d + 1, S => ex0 sA hA sB hB t p d (st0 sA hA sB hB t p S (7 - d))
def unh (sA hA sB hB : Mc) (p : Pl) : Nat → Bool
  | 0 => false
  | k + 1 => unh sA hA sB hB p k || (decide (¬ sA p.1 k = -1 ∧ hB p.2.1 k = -1) || decide (¬ sB p.2.1 k = -1 ∧ hA p.1 k = -1))
def mvd (sA hA sB hB : Mc) (p : Pl) : Nat → Bool
  | 0 => false
  | k + 1 => mvd sA hA sB hB p k || (decide (¬ sA p.1 k = -1 ∧ ¬ hB p.2.1 k = -1) || decide (¬ sB p.2.1 k = -1 ∧ ¬ hA p.1 k = -1))
def fnd0 (sA hA sB hB : Mc) (eA eB : Nat → Int32) (p : Pl) : Nat := if unh sA hA sB hB p 8 = true then 2 else if mvd sA hA sB hB p 8 = true then 0 else if eA p.1 = 1 ∧ eB p.2.1 = 1 then 0 else 1
/-- what two machines must be -/
def MCh (n m : Nat) (sA hA sB hB : Mc) : Prop := (∀ i, i ≤ n → ∀ k, k < 8 → (sA i k = -1 ∨ ∃ j, j ≤ n ∧ sA i k = nI j) ∧ (hA i k = -1 ∨ ∃ j, j ≤ n ∧ hA i k = nI j)) ∧ ∀ i, i ≤ m → ∀ k, k < 8 → (sB i k = -1 ∨ ∃ j, j ≤ m ∧ sB i k = nI j) ∧ (hB i k = -1 ∨ ∃ j, j ≤ m ∧ hB i k = nI j)
/-- a place of these machines -/
def plIn (n m : Nat) (p : Pl) : Prop := p.1 ≤ n ∧ p.2.1 ≤ m ∧ p.2.2.1 ≤ 72 ∧ p.2.2.2 ≤ 72
def WIn (n m : Nat) (S : WSt) : Prop := ∀ x, x < S.1.1 → plIn n m (S.2.1 x)
theorem rch_P {S : WSt} {p : Pl} {par act x : Nat} (hx : x < S.1.1) : (rch S p par act).2.1 x = S.2.1 x ∧ (rch S p par act).2.2.1 x = S.2.2.1 x ∧ (rch S p par act).2.2.2 x = S.2.2.2 x := by
  unfold rch
  split
  · exact ⟨rfl, rfl, rfl⟩
  · split
    · dsimp only
      rw [if_neg (by omega), if_neg (by omega), if_neg (by omega)]
      exact ⟨rfl, rfl, rfl⟩
    · exact ⟨rfl, rfl, rfl⟩
theorem rch_In {n m : Nat} {S : WSt} {p : Pl} {par act : Nat} (w : WIn n m S) (hp : plIn n m p) : WIn n m (rch S p par act) := by
  intro x hx
  unfold rch at hx ⊢
  by_cases q : inL S p = true
  · rw [if_pos q] at hx ⊢; exact w x hx
  · rw [if_neg q] at hx ⊢
    by_cases r : S.1.1 < 4000
    · rw [if_pos r] at hx ⊢
      dsimp only at hx ⊢
      by_cases z : x = S.1.1
      · rw [if_pos z]; exact hp
      · rw [if_neg z]; exact w x (by omega)
    · rw [if_neg r] at hx ⊢; exact w x hx
/-- what a step may do with a walk: more of it -/
def Mor (n m : Nat) (S S' : WSt) : Prop := WOK S' ∧ WIn n m S' ∧ S.1.1 ≤ S'.1.1 ∧ ∀ x, x < S.1.1 → S'.2.1 x = S.2.1 x ∧ S'.2.2.1 x = S.2.2.1 x ∧ S'.2.2.2 x = S.2.2.2 x
theorem Mor.refl {n m : Nat} {S : WSt} (w : WOK S) (i : WIn n m S) : Mor n m S S := ⟨w, i, Nat.le_refl _, fun x _ => ⟨rfl, rfl, rfl⟩⟩
theorem Mor.trans {n m : Nat} {S T U : WSt} (a : Mor n m S T) (b : Mor n m T U) : Mor n m S U := by
  refine ⟨b.1, b.2.1, Nat.le_trans a.2.2.1 b.2.2.1, fun x hx => ?_⟩
  obtain ⟨a1, a2, a3⟩ := a.2.2.2 x hx
  obtain ⟨b1, b2, b3⟩ := b.2.2.2 x (by have := a.2.2.1; omega)
  exact ⟨b1.trans a1, b2.trans a2, b3.trans a3⟩
theorem Mor.rch {n m : Nat} {S : WSt} {p : Pl} {par act : Nat} (hn : n ≤ 24) (hm : m ≤ 24) (w : WOK S) (i : WIn n m S) (hp : plIn n m p) (h1 : par < S.1.1 ∧ act < 18) : Mor n m S (rch S p par act) :=
  ⟨wok_rch w ⟨by have := hp.1; omega, by have := hp.2.1; omega, hp.2.2.1, hp.2.2.2⟩ (fun _ => h1), rch_In i hp, rch_n, fun x hx => rch_P hx⟩
section S0
variable {n m : Nat} {sA hA sB hB : Mc} {t : Nat} {p : Pl} {S : WSt}
theorem mc_A {i k : Nat} (M : MCh n m sA hA sB hB) (hi : i ≤ n) (hk : k < 8) (hn : n ≤ 24) : (¬ sA i k = -1 → tN (sA i k) ≤ n ∧ sA i k = nI (tN (sA i k))) ∧ (¬ hA i k = -1 → tN (hA i k) ≤ n ∧ hA i k = nI (tN (hA i k))) := by
  obtain ⟨a, b⟩ := M.1 i hi k hk
  refine ⟨fun z => ?_, fun z => ?_⟩
  · rcases a with e | ⟨j, j1, j2⟩
    · exact absurd e z
    · unfold tN; rw [j2, cl_nI (by omega)]; exact ⟨j1, rfl⟩
  · rcases b with e | ⟨j, j1, j2⟩
    · exact absurd e z
    · unfold tN; rw [j2, cl_nI (by omega)]; exact ⟨j1, rfl⟩
theorem mc_B {i k : Nat} (M : MCh n m sA hA sB hB) (hi : i ≤ m) (hk : k < 8) (hm : m ≤ 24) : (¬ sB i k = -1 → tN (sB i k) ≤ m ∧ sB i k = nI (tN (sB i k))) ∧ (¬ hB i k = -1 → tN (hB i k) ≤ m ∧ hB i k = nI (tN (hB i k))) := by
  obtain ⟨a, b⟩ := M.2 i hi k hk
  refine ⟨fun z => ?_, fun z => ?_⟩
  · rcases a with e | ⟨j, j1, j2⟩
    · exact absurd e z
    · unfold tN; rw [j2, cl_nI (by omega)]; exact ⟨j1, rfl⟩
  · rcases b with e | ⟨j, j1, j2⟩
    · exact absurd e z
    · unfold tN; rw [j2, cl_nI (by omega)]; exact ⟨j1, rfl⟩
end S0
/-! the class, at once -/
theorem or32 {i j : Nat} (hi : i < 32) : i ||| j * 2 ^ 5 = i + 32 * j := by
  have := Nat.two_pow_add_eq_or_of_lt (i := 5) hi j
  rw [Nat.or_comm, Nat.mul_comm, ← this]; omega
theorem or1024 {i j : Nat} (hi : i < 1024) : i ||| j * 2 ^ 10 = i + 1024 * j := by
  have := Nat.two_pow_add_eq_or_of_lt (i := 10) hi j
  rw [Nat.or_comm, Nat.mul_comm, ← this]; omega
theorem or18 {i j : Nat} (hi : i < 262144) : i ||| j * 2 ^ 18 = i + 262144 * j := by
  have := Nat.two_pow_add_eq_or_of_lt (i := 18) hi j
  rw [Nat.or_comm, Nat.mul_comm, ← this]; omega
theorem place_C (h : AH) {i j a b : Nat} (hi : i < 32) (hj : j < 32) (ha : a < 256) (hb : b < 256) : f_Wa_place h (nI i) (nI j) (nI a) (nI b) = some (nI (i + 32 * j + 1024 * a + 262144 * b)) := by
  unfold f_Wa_place
  rw [pk_shlN _ 5 (by decide) (by omega), pk_shlN _ 10 (by decide) (by omega), pk_shlN _ 18 (by decide) (by omega), nI_or, or32 hi, nI_or, or1024 (by omega), nI_or, or18 (by omega)]
theorem un_i {p : Pl} (hp : plOK p) : nI (cC p) &&& 31 = nI p.1 := by
  have := cC_lt hp
  rw [pk_andN (by omega) 5 (by decide)]
  congr 1
  obtain ⟨a1, a2, a3, a4⟩ := hp
  unfold cC
  omega
theorem un_j {p : Pl} (hp : plOK p) : ((nI (cC p) >>> ((5 : Int32) &&& 31)) &&& 31) = nI p.2.1 := by
  have := cC_lt hp
  rw [pk_shrN (by omega) _ 5 (by decide), pk_andN (by omega) 5 (by decide)]
  congr 1
  obtain ⟨a1, a2, a3, a4⟩ := hp
  unfold cC
  omega
theorem un_u {p : Pl} (hp : plOK p) : ((nI (cC p) >>> ((10 : Int32) &&& 31)) &&& 255) = nI (qC p.2.2.1) := by
  have := cC_lt hp
  rw [pk_shrN (by omega) _ 10 (by decide), pk_andN (by omega) 8 (by decide)]
  congr 1
  have u1 := qC_lt hp.2.2.1
  obtain ⟨a1, a2, a3, a4⟩ := hp
  unfold cC
  omega
theorem un_v {p : Pl} (hp : plOK p) : ((nI (cC p) >>> ((18 : Int32) &&& 31)) &&& 255) = nI (qC p.2.2.2) := by
  have := cC_lt hp
  rw [pk_shrN (by omega) _ 18 (by decide), pk_andN (by omega) 8 (by decide)]
  congr 1
  have u1 := qC_lt hp.2.2.1
  have u2 := qC_lt hp.2.2.2
  obtain ⟨a1, a2, a3, a4⟩ := hp
  unfold cC
  omega
def sX (h : AH) (x : Nat) : Mc := fun i k => nx h x i (8 + k)
def hX (h : AH) (x : Nat) : Mc := fun i k => nx h x i k
theorem mch_T {h : AH} {x y a b n m : Nat} (T1 : TK h x a n) (T2 : TK h y b m) : MCh n m (sX h x) (hX h x) (sX h y) (hX h y) := by
  refine ⟨fun i hi k hk => ⟨?_, ?_⟩, fun i hi k hk => ⟨?_, ?_⟩⟩
  · rcases T1.nxt hi (show 8 + k < 16 by omega) with e | ⟨j, j1, j2, j3⟩
    · exact Or.inl e
    · exact Or.inr ⟨j, j2, j3⟩
  · rcases T1.nxt hi (show k < 16 by omega) with e | ⟨j, j1, j2, j3⟩
    · exact Or.inl e
    · exact Or.inr ⟨j, j2, j3⟩
  · rcases T2.nxt hi (show 8 + k < 16 by omega) with e | ⟨j, j1, j2, j3⟩
    · exact Or.inl e
    · exact Or.inr ⟨j, j2, j3⟩
  · rcases T2.nxt hi (show k < 16 by omega) with e | ⟨j, j1, j2, j3⟩
    · exact Or.inl e
    · exact Or.inr ⟨j, j2, j3⟩
/-- a class heap on its way through a walk -/
def CWk (h : AH) (n m : Nat) (g : AH) (S : WSt) : Prop := Dfr SWk h g ∧ CW g S ∧ WIn n m S
section P0
variable {h g : AH} {x y a b n m : Nat} {S : WSt} {p : Pl} {t : Nat}
theorem swk_ag (f : Dfr SWk h g) : Ag FTalk h g := f.fr.ag (by unfold FTalk SWk; omega)
theorem swk_nx (f : Dfr SWk h g) : nx g = nx h := by funext t s k; exact f.I (by unfold SWk; omega)
theorem swk_en (f : Dfr SWk h g) : en g = en h := by funext t s; exact f.I (by unfold SWk; omega)
theorem ob_v {α β : Type} (a : α) (f : α → Option β) : (some a).bind f = f a := of_eq_true (eq_self (f a))
theorem cC0 (i j : Nat) : cC (i, j, 0, 0) = i + 32 * j + 1024 * 0 + 262144 * 0 := by simp [cC, qC]
theorem come_C (hl : Lay h) (hn : n ≤ 24) (hm : m ≤ 24) (C : CWk h n m g S) {q : Pl} (hq : plIn n m q) {act : Nat} (ht : t < S.1.1) (ha : act < 18) : ∃ g', f_Wa_reach g 92 (nI (cC q)) (nI t) (nI act) = some g' ∧ CWk h n m g' (rch S q t act) ∧ Mor n m S (rch S q t act) := by
  obtain ⟨g2, e3, f3, c3⟩ := reach_C (C.1.lay hl) C.2.1 (p := q) (par := t) (act := act) (pi := nI t) (ai := nI act) ⟨by have := hq.1; omega, by have := hq.2.1; omega, hq.2.2.1, hq.2.2.2⟩ (fun _ => ⟨⟨ht, ha⟩, rfl, rfl⟩)
  exact ⟨g2, e3, ⟨C.1.trans f3, c3, rch_In C.2.2 hq⟩, Mor.rch hn hm C.2.1.1 C.2.2 hq ⟨ht, ha⟩⟩
theorem pass0_C (hl : Lay h) (T1 : TK h x a n) (T2 : TK h y b m) (r1 : hR h 92 8 = some a) (r2 : hR h 92 9 = some b) (hp : plIn n m p) {ρ : Type} {Q : ρ → Prop} (k : AH → Option ρ) {S0 : WSt}
    (hk : ∀ g', CWk h n m g' (ex0 (sX h x) (hX h x) (sX h y) (hX h y) t p 8 S0) → Mor n m S0 (ex0 (sX h x) (hX h x) (sX h y) (hX h y) t p 8 S0) → OK (k g') Q) (ht : t < S0.1.1) (C : CWk h n m g S0) :
    OK (f_Wa_passFrom_L67 92 (nI t) (nI p.1) (nI p.2.1) (nI (sys h x p.1 &&& hrs h y p.2.1)) (nI (sys h y p.2.1 &&& hrs h x p.1)) k FU 0 g) Q := by
  have t1 := T1.1
  have t2 := T2.1
  have M := mch_T T1 T2
  have sl1 := sys_lt h x p.1
  have sl2 := sys_lt h y p.2.1
  obtain ⟨E, eE⟩ : ∃ E, E = ex0 (sX h x) (hX h x) (sX h y) (hX h y) t p 8 S0 := ⟨_, rfl⟩
  rw [← eE] at hk
  have main : ∀ d i N (g : AH) (S : WSt), i + d = 8 → d < N → CWk h n m g S → Mor n m S0 S → ex0 (sX h x) (hX h x) (sX h y) (hX h y) t p d S = E → OK (f_Wa_passFrom_L67 92 (nI t) (nI p.1) (nI p.2.1) (nI (sys h x p.1 &&& hrs h y p.2.1)) (nI (sys h y p.2.1 &&& hrs h x p.1)) k N (nI i) g) Q := by
    intro d
    induction d with
    | zero =>
      intro i N g S h1 h2 C Mr e
      obtain ⟨N, rfl⟩ : ∃ q, N = q + 1 := ⟨N - 1, by omega⟩
      have : i = 8 := by omega
      subst this
      simp only [f_Wa_passFrom_L67, show ¬ nI 8 < 8 by decide, if_false]
      rw [ex0] at e
      exact hk g (by rw [← e]; exact C) (by rw [← e]; exact Mr)
    | succ d ih =>
      intro i N g S h1 h2 C Mr e
      obtain ⟨N, rfl⟩ : ∃ q, N = q + 1 := ⟨N - 1, by omega⟩
      have hi : i < 8 := by omega
      have qi : nI i < 8 := nI_lt (b := 8) hi (by decide)
      have i7 : 7 - d = i := by omega
      rw [ex0, i7] at e
      have bA : (sys h x p.1 &&& hrs h y p.2.1).testBit i = decide (¬ sX h x p.1 i = -1 ∧ ¬ hX h y p.2.1 i = -1) := by
        rw [Nat.testBit_and, sys_bit _ _ _ hi, hrs_bit _ _ _ hi]; unfold sX hX; rw [Bool.decide_and]
      have bB : (sys h y p.2.1 &&& hrs h x p.1).testBit i = decide (¬ sX h y p.2.1 i = -1 ∧ ¬ hX h x p.1 i = -1) := by
        rw [Nat.testBit_and, sys_bit _ _ _ hi, hrs_bit _ _ _ hi]; unfold sX hX; rw [Bool.decide_and]
      have lA : sys h x p.1 &&& hrs h y p.2.1 < 2 ^ 31 := Nat.lt_of_le_of_lt Nat.and_le_left (by omega)
      have lB : sys h y p.2.1 &&& hrs h x p.1 < 2 ^ 31 := Nat.lt_of_le_of_lt Nat.and_le_left (by omega)
      have HA : ∀ g', f_C_hasBit g' (nI (sys h x p.1 &&& hrs h y p.2.1)) (nI i) = some (bI (decide (¬ sX h x p.1 i = -1 ∧ ¬ hX h y p.2.1 i = -1))) := fun g' => by rw [hasBit_C, hb_nI lA (by omega), bA]
      have HB : ∀ g', f_C_hasBit g' (nI (sys h y p.2.1 &&& hrs h x p.1)) (nI i) = some (bI (decide (¬ sX h y p.2.1 i = -1 ∧ ¬ hX h x p.1 i = -1))) := fun g' => by rw [hasBit_C, hb_nI lB (by omega), bB]
      have lg := C.1.lay hl
      have U1 := T1.ag hl.2.2.2.2.2.2 (swk_ag C.1)
      have U2 := T2.ag hl.2.2.2.2.2.2 (swk_ag C.1)
      have R1 : hR g 92 8 = some a := (C.1.R _ _).trans r1
      have R2 : hR g 92 9 = some b := (C.1.R _ _).trans r2
      -- the first of the two
      have first : OK (if bI (decide (¬ sX h x p.1 i = -1 ∧ ¬ hX h y p.2.1 i = -1)) = (0 : Int32) then some g else
          (gR 10 g 92 8).bind fun r32 =>
          (r32).bind fun a33 =>
          (cv 9 g a33 (f_Ta_behind g a33 (nI p.1) (1 : Int32) (nI i))).bind fun x34 =>
          (gR 10 g 92 9).bind fun r35 =>
          (r35).bind fun a36 =>
          (cv 9 g a36 (f_Ta_behind g a36 (nI p.2.1) (0 : Int32) (nI i))).bind fun x37 =>
          (f_Wa_place g x34 x37 (0 : Int32) (0 : Int32)).bind fun x38 =>
          (cv 10 g 92 (f_Wa_reach g 92 x38 (nI t) ((2 : Int32) * nI i))).bind fun h39 =>
          some (h39)) (fun g' => CWk h n m g' (if ¬ sX h x p.1 i = -1 ∧ ¬ hX h y p.2.1 i = -1 then rch S (tN (sX h x p.1 i), tN (hX h y p.2.1 i), 0, 0) t (2 * i) else S) ∧ Mor n m S (if ¬ sX h x p.1 i = -1 ∧ ¬ hX h y p.2.1 i = -1 then rch S (tN (sX h x p.1 i), tN (hX h y p.2.1 i), 0, 0) t (2 * i) else S)) := by
        by_cases q : ¬ sX h x p.1 i = -1 ∧ ¬ hX h y p.2.1 i = -1
        · rw [decide_eq_true q, if_neg (by decide), if_pos q]
          obtain ⟨j1, e1⟩ := (mc_A M hp.1 hi (by omega)).1 q.1
          obtain ⟨j2, e2⟩ := (mc_B M hp.2.1 hi (by omega)).2 q.2
          have b1 := U1.behind (g := 1) hp.1 (by decide) hi
          have b2 := U2.behind (g := 0) hp.2.1 (by decide) hi
          rw [swk_nx C.1, show 8 * 1 + i = 8 + i by omega, show nx h x p.1 (8 + i) = sX h x p.1 i from rfl, e1] at b1
          rw [swk_nx C.1, show 8 * 0 + i = i by omega, show nx h y p.2.1 i = hX h y p.2.1 i from rfl, e2] at b2
          have b1' : f_Ta_behind g a (nI p.1) (1 : Int32) (nI i) = some (nI (tN (sX h x p.1 i))) := b1
          have b2' : f_Ta_behind g b (nI p.2.1) (0 : Int32) (nI i) = some (nI (tN (hX h y p.2.1 i))) := b2
          have pl : f_Wa_place g (nI (tN (sX h x p.1 i))) (nI (tN (hX h y p.2.1 i))) (0 : Int32) (0 : Int32) = some (nI (cC (tN (sX h x p.1 i), tN (hX h y p.2.1 i), 0, 0))) := by
            rw [cC0]
            exact place_C g (a := 0) (b := 0) (by omega) (by omega) (by decide) (by decide)
          have pin : plIn n m (tN (sX h x p.1 i), tN (hX h y p.2.1 i), 0, 0) := ⟨j1, j2, Nat.zero_le _, Nat.zero_le _⟩
          obtain ⟨g2, e3, c3, m3⟩ := come_C (t := t) (act := 2 * i) hl t1 t2 C pin (by have := Mr.2.2.1; omega) (by omega)
          have a2 : (2 : Int32) * nI i = nI (2 * i) := pk_mul 2 i
          simp only [gR_n (c := 10) (kk92 lg), R1, R2, ob_v, cv_n (c := 9) U1.2.2.2.1.1, b1', cv_n (c := 9) U2.2.2.2.1.1, b2', pl, cv_n (c := 10) (kk92 lg), a2, e3]
          exact OK.mk ⟨c3, m3⟩
        · rw [decide_eq_false q, if_pos (show bI false = 0 from rfl), if_neg q]
          exact OK.mk ⟨C, Mor.refl C.2.1.1 C.2.2⟩
      simp only [f_Wa_passFrom_L67, qi, if_true, HA, ob_v]
      refine OK.bind (first.mono (fun g2 ⟨C2, M2⟩ => ?_))
      obtain ⟨S2, eS2⟩ : ∃ S2, S2 = (if ¬ sX h x p.1 i = -1 ∧ ¬ hX h y p.2.1 i = -1 then rch S (tN (sX h x p.1 i), tN (hX h y p.2.1 i), 0, 0) t (2 * i) else S) := ⟨_, rfl⟩
      rw [← eS2] at C2 M2
      have Mr2 := Mr.trans M2
      rw [HB, ob_v]
      have l2 := C2.1.lay hl
      have V1 := T1.ag hl.2.2.2.2.2.2 (swk_ag C2.1)
      have V2 := T2.ag hl.2.2.2.2.2.2 (swk_ag C2.1)
      have R1 : hR g2 92 8 = some a := (C2.1.R _ _).trans r1
      have R2 : hR g2 92 9 = some b := (C2.1.R _ _).trans r2
      unfold st0 at e
      rw [← eS2] at e
      by_cases q : ¬ sX h y p.2.1 i = -1 ∧ ¬ hX h x p.1 i = -1
      · rw [decide_eq_true q, if_neg (by decide)]
        rw [if_pos q] at e
        obtain ⟨j1, e1⟩ := (mc_A M hp.1 hi (by omega)).2 q.2
        obtain ⟨j2, e2⟩ := (mc_B M hp.2.1 hi (by omega)).1 q.1
        have b1 := V1.behind (g := 0) hp.1 (by decide) hi
        have b2 := V2.behind (g := 1) hp.2.1 (by decide) hi
        rw [swk_nx C2.1, show 8 * 0 + i = i by omega, show nx h x p.1 i = hX h x p.1 i from rfl, e1] at b1
        rw [swk_nx C2.1, show 8 * 1 + i = 8 + i by omega, show nx h y p.2.1 (8 + i) = sX h y p.2.1 i from rfl, e2] at b2
        have b1' : f_Ta_behind g2 a (nI p.1) (0 : Int32) (nI i) = some (nI (tN (hX h x p.1 i))) := b1
        have b2' : f_Ta_behind g2 b (nI p.2.1) (1 : Int32) (nI i) = some (nI (tN (sX h y p.2.1 i))) := b2
        have pl : f_Wa_place g2 (nI (tN (hX h x p.1 i))) (nI (tN (sX h y p.2.1 i))) (0 : Int32) (0 : Int32) = some (nI (cC (tN (hX h x p.1 i), tN (sX h y p.2.1 i), 0, 0))) := by
          rw [cC0]
          exact place_C g2 (a := 0) (b := 0) (by omega) (by omega) (by decide) (by decide)
        have pin : plIn n m (tN (hX h x p.1 i), tN (sX h y p.2.1 i), 0, 0) := ⟨j1, j2, Nat.zero_le _, Nat.zero_le _⟩
        obtain ⟨g3, e3, c3, m3⟩ := come_C (t := t) (act := 2 * i + 1) hl t1 t2 C2 pin (by have := Mr2.2.2.1; omega) (by omega)
        have a2 : ((2 : Int32) * nI i) + (1 : Int32) = nI (2 * i + 1) := by rw [show (2 : Int32) = nI 2 from rfl, pk_mul, nI_1]
        simp only [gR_n (c := 10) (kk92 l2), R1, R2, ob_v, cv_n (c := 9) V1.2.2.2.1.1, b1', cv_n (c := 9) V2.2.2.2.1.1, b2', pl, cv_n (c := 10) (kk92 l2), a2, e3, nI_1]
        exact ih (i + 1) N g3 _ (by omega) (by omega) c3 (Mr2.trans m3) e
      · rw [decide_eq_false q, if_pos (show bI false = 0 from rfl), nI_1]
        rw [if_neg q] at e
        exact ih (i + 1) N g2 S2 (by omega) (by omega) C2 Mr2 e
  exact main 8 0 FU g S0 rfl (by unfold FU; omega) C (Mor.refl C.2.1.1 C.2.2) eE.symm
end P0
