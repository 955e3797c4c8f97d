/-! CHANCES AND MEANS as fractions in lowest terms -/
theorem lg0 (x : Int64) : (lg_cmp x 0 = 0) ↔ x = 0 := by
  unfold lg_cmp
  constructor
  · intro q
    revert q
    split
    · intro q; exact absurd q (by decide)
    · split
      · rename_i a b
        intro _
        exact b
      · intro q; exact absurd q (by decide)
  · intro q; subst q; decide
theorem lN_0 {a : Nat} (ha : a < 2 ^ 63) : lN a = 0 ↔ a = 0 := pk_lEQ (b := 0) ha (by decide)
theorem half_mod {b c n : Nat} (hb : b < 2 ^ (n + 1)) (c0 : 0 < c) (hc : c < b) : b % c < 2 ^ n := by
  have h1 : b % c < c := Nat.mod_lt _ c0
  have h2 : b % c + c ≤ b := by
    have := Nat.div_add_mod b c
    have : 1 ≤ b / c := (Nat.le_div_iff_mul_le c0).mpr (by omega)
    have : c * 1 ≤ c * (b / c) := Nat.mul_le_mul_left c this
    omega
  rw [Nat.pow_succ] at hb
  omega
theorem gcd_C (h : AH) (y0 y2 : Int64) (y4 : Int32) {ρ : Type} (k : Int64 → Option ρ) : ∀ n a b i N, a < 2 ^ 63 → b < 2 ^ n → n ≤ 62 → i + 2 * n ≤ 199 → 2 * n < N → f_C_lowest_L9 h y0 y2 y4 k N (lN a) (lN b) (nI i) = k (lN (Nat.gcd a b)) := by
  intro n
  induction n with
  | zero =>
    intro a b i N ha hb _ hi hN
    obtain ⟨N, rfl⟩ : ∃ q, N = q + 1 := ⟨N - 1, by omega⟩
    have b0 : b = 0 := by simpa using hb
    subst b0
    have q : nI i < 200 := nI_lt (b := 200) (by omega) (by decide)
    have q0 : lg_cmp (lN 0) 0 = 0 := (lg0 _).mpr rfl
    simp only [f_C_lowest_L9, q, if_true, q0, Nat.gcd_zero_right]
  | succ n ih =>
    intro a b i N ha hb hn hi hN
    obtain ⟨N, rfl⟩ : ∃ q, N = q + 1 := ⟨N - 1, by omega⟩
    have q : nI i < 200 := nI_lt (b := 200) (by omega) (by decide)
    have b63 : b < 2 ^ 63 := Nat.lt_of_lt_of_le hb (Nat.pow_le_pow_right (by decide) (by omega))
    by_cases b0 : b = 0
    · subst b0
      have q0 : lg_cmp (lN 0) 0 = 0 := (lg0 _).mpr rfl
      simp only [f_C_lowest_L9, q, if_true, q0, Nat.gcd_zero_right]
    · have z : ¬ lN b = 0 := fun e => b0 ((lN_0 b63).mp e)
      have q0 : ¬ lg_cmp (lN b) 0 = 0 := fun e => z ((lg0 _).mp e)
      simp only [f_C_lowest_L9, q, if_true, q0, if_false, z, not_false_eq_true, Option.bind_some, pk_lRem ha (Nat.pos_of_ne_zero b0) b63, nI_1]
      obtain ⟨c, ec⟩ : ∃ c, c = a % b := ⟨_, rfl⟩
      have hc : c < b := by rw [ec]; exact Nat.mod_lt _ (Nat.pos_of_ne_zero b0)
      rw [← ec]
      have g1 : Nat.gcd a b = Nat.gcd b c := by rw [ec, Nat.gcd_comm a b, Nat.gcd_rec b a, Nat.gcd_comm]
      rw [g1]
      obtain ⟨N, rfl⟩ : ∃ q, N = q + 1 := ⟨N - 1, by omega⟩
      have q' : nI (i + 1) < 200 := nI_lt (b := 200) (by omega) (by decide)
      by_cases c0 : c = 0
      · rw [c0]
        have q0 : lg_cmp (lN 0) 0 = 0 := (lg0 _).mpr rfl
        simp only [f_C_lowest_L9, q', if_true, q0, Nat.gcd_zero_right]
      · have z : ¬ lN c = 0 := fun e => c0 ((lN_0 (by omega)).mp e)
        have q0 : ¬ lg_cmp (lN c) 0 = 0 := fun e => z ((lg0 _).mp e)
        simp only [f_C_lowest_L9, q', if_true, q0, if_false, z, not_false_eq_true, Option.bind_some, pk_lRem b63 (Nat.pos_of_ne_zero c0) (show c < 2 ^ 63 by omega), nI_1]
        have hd : b % c < 2 ^ n := half_mod hb (Nat.pos_of_ne_zero c0) hc
        have g2 : Nat.gcd b c = Nat.gcd c (b % c) := by rw [Nat.gcd_comm b c, Nat.gcd_rec c b, Nat.gcd_comm]
        rw [g2]
        exact ih c (b % c) (i + 1 + 1) N (by omega) hd (by omega) (by omega) (by omega)
theorem gcd_M (h : AH) : ∀ n a b N, a < 2 ^ 63 → b < 2 ^ n → n ≤ 62 → 2 * n < N → f_M_shared_L6 h N (lN a) (lN b) = some (lN (Nat.gcd a b)) := by
  intro n
  induction n with
  | zero =>
    intro a b N ha hb _ hN
    obtain ⟨N, rfl⟩ : ∃ q, N = q + 1 := ⟨N - 1, by omega⟩
    have b0 : b = 0 := by simpa using hb
    subst b0
    have q0 : lg_cmp (lN 0) 0 = 0 := (lg0 _).mpr rfl
    simp only [f_M_shared_L6, if_true, q0, Nat.gcd_zero_right]
  | succ n ih =>
    intro a b N ha hb hn hN
    obtain ⟨N, rfl⟩ : ∃ q, N = q + 1 := ⟨N - 1, by omega⟩
    have b63 : b < 2 ^ 63 := Nat.lt_of_lt_of_le hb (Nat.pow_le_pow_right (by decide) (by omega))
    by_cases b0 : b = 0
    · subst b0
      have q0 : lg_cmp (lN 0) 0 = 0 := (lg0 _).mpr rfl
      simp only [f_M_shared_L6, if_true, q0, Nat.gcd_zero_right]
    · have z : ¬ lN b = 0 := fun e => b0 ((lN_0 b63).mp e)
      have q0 : ¬ lg_cmp (lN b) 0 = 0 := fun e => z ((lg0 _).mp e)
      simp only [f_M_shared_L6, q0, if_false, if_true, z, not_false_eq_true, Option.bind_some, pk_lRem ha (Nat.pos_of_ne_zero b0) b63]
      obtain ⟨c, ec⟩ : ∃ c, c = a % b := ⟨_, rfl⟩
      have hc : c < b := by rw [ec]; exact Nat.mod_lt _ (Nat.pos_of_ne_zero b0)
      rw [← ec]
      have g1 : Nat.gcd a b = Nat.gcd b c := by rw [ec, Nat.gcd_comm a b, Nat.gcd_rec b a, Nat.gcd_comm]
      rw [g1]
      obtain ⟨N, rfl⟩ : ∃ q, N = q + 1 := ⟨N - 1, by omega⟩
      by_cases c0 : c = 0
      · rw [c0]
        have q0 : lg_cmp (lN 0) 0 = 0 := (lg0 _).mpr rfl
        simp only [f_M_shared_L6, if_true, q0, Nat.gcd_zero_right]
      · have z : ¬ lN c = 0 := fun e => c0 ((lN_0 (by omega)).mp e)
        have q0 : ¬ lg_cmp (lN c) 0 = 0 := fun e => z ((lg0 _).mp e)
        simp only [f_M_shared_L6, q0, if_false, if_true, z, not_false_eq_true, Option.bind_some, pk_lRem b63 (Nat.pos_of_ne_zero c0) (show c < 2 ^ 63 by omega)]
        have hd : b % c < 2 ^ n := half_mod hb (Nat.pos_of_ne_zero c0) hc
        have g2 : Nat.gcd b c = Nat.gcd c (b % c) := by rw [Nat.gcd_comm b c, Nat.gcd_rec c b, Nat.gcd_comm]
        rw [g2]
        exact ih c (b % c) N (by omega) hd (by omega) (by omega)
theorem low_C (h : AH) {a b : Nat} (ha : a < 2 ^ 63) (hb : b < 2 ^ 62) (b0 : 0 < b) (p : Int32) : f_C_lowest h (lN a) (lN b) p = some (lN ((if p = 0 then a else b) / Nat.gcd a b)) := by
  have g0 : 0 < Nat.gcd a b := Nat.gcd_pos_of_pos_right a b0
  have gl : Nat.gcd a b ≤ b := Nat.le_of_dvd b0 (Nat.gcd_dvd_right a b)
  have z : ¬ lN (Nat.gcd a b) = 0 := fun e => absurd ((lN_0 (by omega)).mp e) (by omega)
  have q0 : ¬ lg_cmp (lN (Nat.gcd a b)) 0 = 0 := fun e => z ((lg0 _).mp e)
  unfold f_C_lowest
  have L := gcd_C h (lN a) (lN b) p (fun x2 =>
    (
      if p = (0 : Int32) then
        some (lN a)
      else
        some (lN b)
    ).bind fun x3 =>
    if (lg_cmp x2 (0 : Int64)) = (0 : Int32) then
      some (x3)
    else
      if ¬ x2 = 0 then
      some ((x3 / x2))
      else none
  ) 62 a b 0 FU ha hb (by decide) (by decide) (by unfold FU; omega)
  rw [nI_0] at L
  refine L.trans ?_
  by_cases y : p = 0
  · simp only [y, if_true, Option.bind_some, q0, if_false, z, not_false_eq_true, pk_lDiv ha g0 (show Nat.gcd a b < 2 ^ 63 by omega)]
  · simp only [y, if_false, Option.bind_some, q0, if_true, z, not_false_eq_true, pk_lDiv (show b < 2 ^ 63 by omega) g0 (show Nat.gcd a b < 2 ^ 63 by omega)]
theorem low_M (h : AH) {a b : Nat} (ha : a < 2 ^ 63) (hb : b < 2 ^ 62) (b0 : 0 < b) (p : Int32) : f_M_lowest h (lN a) (lN b) p = some (lN ((if p = 0 then a else b) / Nat.gcd a b)) := by
  have g0 : 0 < Nat.gcd a b := Nat.gcd_pos_of_pos_right a b0
  have gl : Nat.gcd a b ≤ b := Nat.le_of_dvd b0 (Nat.gcd_dvd_right a b)
  have z : ¬ lN (Nat.gcd a b) = 0 := fun e => absurd ((lN_0 (by omega)).mp e) (by omega)
  unfold f_M_lowest f_M_shared
  rw [gcd_M h 62 a b FU ha hb (by decide) (by unfold FU; omega)]
  by_cases y : p = 0
  · simp only [y, if_true, Option.bind_some, z, not_false_eq_true, pk_lDiv ha g0 (show Nat.gcd a b < 2 ^ 63 by omega)]
  · simp only [y, if_false, Option.bind_some, if_true, z, not_false_eq_true, pk_lDiv (show b < 2 ^ 63 by omega) g0 (show Nat.gcd a b < 2 ^ 63 by omega)]
theorem power_C (h : AH) (a : Nat) {r : Nat} (hr : r < 2 ^ 20) : f_C_power h (lN a) (nI r) = some (lN (a ^ r)) := by
  have main : ∀ d i n, i + d = r → d < n → f_C_power_L5 h (lN a) (nI r) n (lN (a ^ i)) (nI i) = some (lN (a ^ r)) := by
    intro d
    induction d with
    | zero =>
      intro i n h1 h2
      obtain ⟨n, rfl⟩ : ∃ q, n = q + 1 := ⟨n - 1, by omega⟩
      have : i = r := by omega
      subst this
      simp only [f_C_power_L5, nI_nlt (Nat.le_refl i) (by omega), if_false]
    | succ d ih =>
      intro i n h1 h2
      obtain ⟨n, rfl⟩ : ∃ q, n = q + 1 := ⟨n - 1, by omega⟩
      simp only [f_C_power_L5, nI_lt (show i < r by omega) (by omega), if_true, Option.bind_some, lN_mul, nI_1, ← Nat.pow_succ]
      exact ih (i + 1) n (by omega) (by omega)
  exact main r 0 FU (by omega) (by unfold FU; omega)
theorem power_M (h : AH) (a : Nat) {r : Nat} (h1 : 1 ≤ r) (h3 : r ≤ 3) : f_M_power h (lN a) (nI r) = some (lN (a ^ r)) := by
  rcases (show r = 1 ∨ r = 2 ∨ r = 3 by omega) with rfl | rfl | rfl
  · rw [f_M_power, if_pos (by decide), Nat.pow_one]
  · rw [f_M_power, if_neg (by decide), if_pos (by decide), lN_mul, Nat.pow_two]
  · rw [f_M_power, if_neg (by decide), if_neg (by decide), lN_mul, lN_mul, Nat.pow_succ, Nat.pow_two]
def prN (h : AH) (s : Nat) : Nat := (hI h 209 (5 * s)).toNatClampNeg
def fvN (h : AH) (s : Nat) : Nat := (hI h 209 (5 * s + 1)).toNatClampNeg
def goQ (r v : Nat) : Nat := 10 ^ r - v ^ r
def smT (r v : Nat) : Nat → Nat
  | 0 => 0
  | i + 1 => smT r v i + v ^ i * 10 ^ (r - i)
def prq (q : Nat → Nat) : Nat → Nat
  | 0 => 1
  | i + 1 => prq q i * q i
def bkM (M q : Nat → Nat) (P n : Nat) : Nat → Nat
  | 0 => 0
  | d + 1 => M (n - (d + 1)) * P ^ d + q (n - (d + 1)) * bkM M q P n d
theorem pow_le3 {v r : Nat} (hv : v ≤ 9) : v ^ r ≤ 10 ^ r := Nat.pow_le_pow_left (by omega) r
theorem ten_le {r : Nat} (h3 : r ≤ 3) : 10 ^ r ≤ 1000 := Nat.le_trans (Nat.pow_le_pow_right (by decide) h3) (by decide)
theorem smT_le : ∀ r, r < 4 → ∀ v, v < 10 → smT r v r ≤ 2710 := by decide
theorem bkM_le {M q : Nat → Nat} {P n : Nat} (hM : ∀ i, M i ≤ 136000) (hq : ∀ i, q i ≤ 1000) (hP : P ≤ 1000) : ∀ d, bkM M q P n d ≤ d * 136 * 1000 ^ d
  | 0 => by simp [bkM]
  | d + 1 => by
    have ih := bkM_le (n := n) hM hq hP d
    have p1 : P ^ d ≤ 1000 ^ d := Nat.pow_le_pow_left hP d
    have a1 : M (n - (d + 1)) * P ^ d ≤ 136000 * 1000 ^ d := Nat.mul_le_mul (hM _) p1
    have a2 : q (n - (d + 1)) * bkM M q P n d ≤ 1000 * (d * 136 * 1000 ^ d) := Nat.mul_le_mul (hq _) ih
    have e1 : 1000 * (d * 136 * 1000 ^ d) = d * 136 * 1000 ^ (d + 1) := by rw [Nat.pow_succ]; simp only [Nat.mul_comm, Nat.mul_left_comm, Nat.mul_assoc]
    have e2 : 136000 * 1000 ^ d = 136 * 1000 ^ (d + 1) := by rw [Nat.pow_succ]; omega
    have e3 : (d + 1) * 136 * 1000 ^ (d + 1) = d * 136 * 1000 ^ (d + 1) + 136 * 1000 ^ (d + 1) := by rw [show (d + 1) * 136 = d * 136 + 136 by omega, Nat.add_mul]
    simp only [bkM]
    omega
theorem prq_le {q : Nat → Nat} (hq : ∀ i, q i ≤ 1000) : ∀ d, prq q d ≤ 1000 ^ d
  | 0 => Nat.le_refl _
  | d + 1 => by rw [prq, Nat.pow_succ]; exact Nat.mul_le_mul (prq_le hq d) (hq d)
section CM
variable {h : AH} {hn rn r : Nat} {ha : Nat → Nat}
theorem HP.pr {s a : Nat} (H : HP h hn s a) : prN h s ≤ 50 ∧ hI h 209 (5 * s) = nI (prN h s) ∧ fvN h s ≤ 9 ∧ hI h 209 (5 * s + 1) = nI (fvN h s) := by
  obtain ⟨a1, a2, a3, a4, a5, a6, a7, a8, a9, ⟨v, v1, v2⟩, ⟨w, w1, w2⟩, _⟩ := H
  unfold prN fvN
  rw [v2, w2, cl_nI (by omega), cl_nI (by omega)]
  exact ⟨v1, rfl, w1, rfl⟩
theorem going_C {s a : Nat} (H : HP h hn s a) (h3 : r ≤ 3) : f_He_chancesOfGoing h a (nI r) = some (lN (goQ r (fvN h s))) := by
  obtain ⟨p1, p2, p3, p4⟩ := H.pr
  simp only [f_He_chancesOfGoing, show (10 : Int64) = lN 10 from rfl, power_C h 10 (show r < 2 ^ 20 by omega), Option.bind_some, H.tr, H.t1, p4, nI_l (show fvN h s < 2 ^ 31 by omega), power_C h (fvN h s) (show r < 2 ^ 20 by omega)]
  rw [lN_sub (pow_le3 p3)]
  rfl
theorem tries_C {s a : Nat} (H : HP h hn s a) (h3 : r ≤ 3) : f_He_meanOfTries h a (nI r) = some (lN (prN h s * smT r (fvN h s) r)) := by
  obtain ⟨p1, p2, p3, p4⟩ := H.pr
  have main : ∀ (k : Int64 → Option Int64) d i n, i + d = r → d < n → f_He_meanOfTries_L5 h a (nI r) k n (lN (smT r (fvN h s) i)) (nI i) = k (lN (smT r (fvN h s) r)) := by
    intro k d
    induction d with
    | zero =>
      intro i n h1 h2
      obtain ⟨n, rfl⟩ : ∃ q, n = q + 1 := ⟨n - 1, by omega⟩
      have : i = r := by omega
      subst this
      simp only [f_He_meanOfTries_L5, nI_nlt (Nat.le_refl i) (by omega), if_false]
    | succ d ih =>
      intro i n h1 h2
      obtain ⟨n, rfl⟩ : ∃ q, n = q + 1 := ⟨n - 1, by omega⟩
      simp only [f_He_meanOfTries_L5, nI_lt (show i < r by omega) (by omega), if_true, Option.bind_some, H.tr, H.t1, p4, nI_l (show fvN h s < 2 ^ 31 by omega), power_C h (fvN h s) (show i < 2 ^ 20 by omega), show (10 : Int64) = lN 10 from rfl, pk_sub (show i ≤ r by omega), power_C h 10 (show r - i < 2 ^ 20 by omega), lN_mul, lN_add, nI_1]
      exact ih (i + 1) n (by omega) (by omega)
  unfold f_He_meanOfTries
  have := main (fun x7 =>
    (gR 4 h a 0).bind fun r8 =>
    (r8).bind fun a9 =>
    (rI 1 h a9 (0 : Int32)).bind fun x10 =>
    some ((((x10).toInt64) * x7))) r 0 FU (by omega) (by unfold FU; omega)
  refine this.trans ?_
  simp only [H.tr, Option.bind_some, H.t0, p2, nI_l (show prN h s < 2 ^ 31 by omega), lN_mul]
theorem row_hp (hl : Lay h) (rh : RHelp h hn ha) (rr : RRow h hn rn) {i : Nat} (hi : i < rn) : HP h hn (rowN h i) (ha (rowN h i)) ∧ f_Ro_helperAt h 107 (nI i) = some (some (ha (rowN h i))) ∧ rowN h i < 8 ∧ hI h 211 i = nI (rowN h i) ∧ hK h (ha (rowN h i)) = (104, 0) := by
  obtain ⟨s, s1, s2, s3, s4⟩ := rowAt_C hl rh rr hi
  obtain ⟨w1, w2⟩ := rowN_at rr rh hi
  have h8 := rh.1
  have es : s = rowN h i := nI_inj (by omega) (by omega) (by rw [← s2, w2])
  subst es
  have H := (rh.2.2.2 _ w1).2
  exact ⟨H, s4, by omega, w2, H.2.2.1⟩
def qOf (h : AH) (r i : Nat) : Nat := goQ r (fvN h (rowN h i))
def mOf (h : AH) (r i : Nat) : Nat := prN h (rowN h i) * smT r (fvN h (rowN h i)) r
theorem chances_C (hl : Lay h) (rh : RHelp h hn ha) (rr : RRow h hn rn) (h3 : r ≤ 3) (y2 : Int32) {ρ : Type} (k : Int64 → Int64 → Option ρ) : f_C_chance_L26 h 4 (nI r) y2 k FU 1 1 0 = k (lN (prq (qOf h r) rn)) (lN ((10 ^ r) ^ rn)) := by
  have h5 := rr.1
  have main : ∀ d i n, i + d = rn → d < n → f_C_chance_L26 h 4 (nI r) y2 k n (lN (prq (qOf h r) i)) (lN ((10 ^ r) ^ i)) (nI i) = k (lN (prq (qOf h r) rn)) (lN ((10 ^ r) ^ rn)) := by
    intro d
    induction d with
    | zero =>
      intro i n h1 h2
      obtain ⟨n, rfl⟩ : ∃ q, n = q + 1 := ⟨n - 1, by omega⟩
      have : i = rn := by omega
      subst this
      simp only [f_C_chance_L26, gR_n (kk4 hl), LR hl, Option.bind_some, gI_n (c := 8) (kk107 hl), rr.2.1, nI_nlt (Nat.le_refl i) (by omega), if_false]
    | succ d ih =>
      intro i n h1 h2
      obtain ⟨n, rfl⟩ : ∃ q, n = q + 1 := ⟨n - 1, by omega⟩
      obtain ⟨H, e1, e2, e3, e4⟩ := row_hp hl rh rr (show i < rn by omega)
      simp only [f_C_chance_L26, gR_n (kk4 hl), LR hl, Option.bind_some, gI_n (c := 8) (kk107 hl), rr.2.1, nI_lt (show i < rn by omega) (by omega), if_true, cv_n (c := 8) (kk107 hl), e1, cv_n (c := 4) e4, going_C H h3, show (10 : Int64) = lN 10 from rfl, power_C h 10 (show r < 2 ^ 20 by omega), lN_mul, nI_1, ← Nat.pow_succ]
      exact ih (i + 1) n (by omega) (by omega)
  exact main rn 0 FU (by omega) (by unfold FU; omega)
theorem chances_M (hl : Lay h) (rh : RHelp h hn ha) (rr : RRow h hn rn) (r1 : 1 ≤ r) (h3 : r ≤ 3) (y2 : Int32) {ρ : Type} (k : Int64 → Int64 → Option ρ) : f_M_chance_L30 h 201 (nI r) y2 k FU 1 1 0 = k (lN (prq (qOf h r) rn)) (lN ((10 ^ r) ^ rn)) := by
  have h5 := rr.1
  have main : ∀ d i n, i + d = rn → d < n → f_M_chance_L30 h 201 (nI r) y2 k n (lN (prq (qOf h r) i)) (lN ((10 ^ r) ^ i)) (nI i) = k (lN (prq (qOf h r) rn)) (lN ((10 ^ r) ^ rn)) := by
    intro d
    induction d with
    | zero =>
      intro i n h1 h2
      obtain ⟨n, rfl⟩ : ∃ q, n = q + 1 := ⟨n - 1, by omega⟩
      have : i = rn := by omega
      subst this
      simp only [f_M_chance_L30, gI_n (kk201 hl), rr.2.2.1, Option.bind_some, nI_nlt (Nat.le_refl i) (by omega), if_false]
    | succ d ih =>
      intro i n h1 h2
      obtain ⟨n, rfl⟩ : ∃ q, n = q + 1 := ⟨n - 1, by omega⟩
      obtain ⟨H, e1, e2, e3, e4⟩ := row_hp hl rh rr (show i < rn by omega)
      obtain ⟨p1, p2, p3, p4⟩ := H.pr
      have i5 : ((5 : Int32) * nI (rowN h i)) + (1 : Int32) = nI (5 * rowN h i + 1) := by rw [show (5 : Int32) = nI 5 from rfl, pk_mul, nI_1]
      simp only [f_M_chance_L30, gI_n (kk201 hl), rr.2.2.1, Option.bind_some, nI_lt (show i < rn by omega) (by omega), if_true, show (10 : Int64) = lN 10 from rfl, power_M h 10 r1 h3, gR_n (kk201 hl), LR hl, rI_n (kk211 hl) (show i < 5 by omega) (by decide), e3, i5, rI_n (kk209 hl) (show 5 * rowN h i + 1 < 40 by omega) (by decide), p4, nI_l (show fvN h (rowN h i) < 2 ^ 31 by omega), power_M h _ r1 h3, lN_sub (pow_le3 p3), lN_mul, nI_1, ← Nat.pow_succ]
      exact ih (i + 1) n (by omega) (by omega)
  exact main rn 0 FU (by omega) (by unfold FU; omega)
theorem means_C (hl : Lay h) (rh : RHelp h hn ha) (rr : RRow h hn rn) (h3 : r ≤ 3) (y2 : Int32) {ρ : Type} (k : Int64 → Int64 → Option ρ) : f_C_mean_L34 h 4 (nI r) y2 k FU 0 1 (nI rn - 1) = k (lN (bkM (mOf h r) (qOf h r) (10 ^ r) rn rn)) (lN ((10 ^ r) ^ rn)) := by
  have h5 := rr.1
  have main : ∀ i d n, i + d = rn → i < n → f_C_mean_L34 h 4 (nI r) y2 k n (lN (bkM (mOf h r) (qOf h r) (10 ^ r) rn d)) (lN ((10 ^ r) ^ d)) (nI i - 1) = k (lN (bkM (mOf h r) (qOf h r) (10 ^ r) rn rn)) (lN ((10 ^ r) ^ rn)) := by
    intro i
    induction i with
    | zero =>
      intro d n h1 h2
      obtain ⟨n, rfl⟩ : ∃ q, n = q + 1 := ⟨n - 1, by omega⟩
      have : d = rn := by omega
      subst this
      simp only [f_C_mean_L34, show nI 0 - 1 < 0 by decide, if_true]
    | succ i ih =>
      intro d n h1 h2
      obtain ⟨n, rfl⟩ : ∃ q, n = q + 1 := ⟨n - 1, by omega⟩
      obtain ⟨H, e1, e2, e3, e4⟩ := row_hp hl rh rr (show i < rn by omega)
      simp only [f_C_mean_L34, nI_pred, nI_n0 i (by omega), if_false, gR_n (kk4 hl), LR hl, Option.bind_some, cv_n (c := 8) (kk107 hl), e1, cv_n (c := 4) e4, going_C H h3, tries_C H h3, show (10 : Int64) = lN 10 from rfl, power_C h 10 (show r < 2 ^ 20 by omega), lN_mul, lN_add, ← Nat.pow_succ]
      have := ih (d + 1) n (by omega) (by omega)
      rw [bkM, show rn - (d + 1) = i by omega] at this
      rw [show nI i + (-1 : Int32) = nI i - 1 by rw [Int32.sub_eq_add_neg]]
      exact this
  exact main rn 0 FU (by omega) (by unfold FU; omega)
theorem means_M (hl : Lay h) (rh : RHelp h hn ha) (rr : RRow h hn rn) (r1 : 1 ≤ r) (h3 : r ≤ 3) (y2 : Int32) {ρ : Type} (k : Int64 → Int64 → Option ρ) : f_M_mean_L33 h 201 (nI r) y2 k FU 0 1 1 0 = k (lN (bkM (mOf h r) (qOf h r) (10 ^ r) rn rn)) (lN ((10 ^ r) ^ rn)) := by
  have h5 := rr.1
  have main : ∀ d i n A G B, i + d = rn → d < n → f_M_mean_L33 h 201 (nI r) y2 k n (lN A) (lN G) (lN B) (nI i) = k (lN (A * (10 ^ r) ^ d + G * bkM (mOf h r) (qOf h r) (10 ^ r) rn d)) (lN (B * (10 ^ r) ^ d)) := by
    intro d
    induction d with
    | zero =>
      intro i n A G B h1 h2
      obtain ⟨n, rfl⟩ : ∃ q, n = q + 1 := ⟨n - 1, by omega⟩
      have : i = rn := by omega
      subst this
      simp only [f_M_mean_L33, gI_n (kk201 hl), rr.2.2.1, Option.bind_some, nI_nlt (Nat.le_refl i) (by omega), if_false, bkM, Nat.pow_zero, Nat.mul_one, Nat.mul_zero, Nat.add_zero]
    | succ d ih =>
      intro i n A G B h1 h2
      obtain ⟨n, rfl⟩ : ∃ q, n = q + 1 := ⟨n - 1, by omega⟩
      obtain ⟨H, e1, e2, e3, e4⟩ := row_hp hl rh rr (show i < rn by omega)
      obtain ⟨p1, p2, p3, p4⟩ := H.pr
      have i5 : ((5 : Int32) * nI (rowN h i)) + (1 : Int32) = nI (5 * rowN h i + 1) := by rw [show (5 : Int32) = nI 5 from rfl, pk_mul, nI_1]
      have i6 : ((5 : Int32) * nI (rowN h i)) = nI (5 * rowN h i) := by rw [show (5 : Int32) = nI 5 from rfl, pk_mul]
      obtain ⟨v, ev⟩ : ∃ v, v = fvN h (rowN h i) := ⟨_, rfl⟩
      have e11 : ((if nI r = (1 : Int32) then some (10 : Int64) else if nI r = (2 : Int32) then some ((100 : Int64) + ((10 : Int64) * lN v)) else some (((1000 : Int64) + ((100 : Int64) * lN v)) + (((10 : Int64) * lN v) * lN v))) : Option Int64) = some (lN (smT r v r)) := by
        rw [show (10 : Int64) = lN 10 from rfl, show (100 : Int64) = lN 100 from rfl, show (1000 : Int64) = lN 1000 from rfl]
        rcases (show r = 1 ∨ r = 2 ∨ r = 3 by omega) with rfl | rfl | rfl
        · rw [if_pos (by decide)]; simp [smT]
        · rw [if_neg (by decide), if_pos (by decide), lN_mul, lN_add]
          congr 2
          simp [smT]; omega
        · rw [if_neg (by decide), if_neg (by decide), lN_mul, lN_mul, lN_mul, lN_add, lN_add]
          refine congrArg (fun n => some (lN n)) ?_
          simp only [smT, Nat.pow_zero, Nat.pow_one, Nat.zero_add, Nat.one_mul, Nat.sub_zero]
          rw [show v ^ 2 = v * v from Nat.pow_two v, show 10 * v * v = v * v * 10 by rw [Nat.mul_assoc, Nat.mul_comm]]
          omega
      rw [← ev] at p3 p4
      simp only [f_M_mean_L33, gI_n (kk201 hl), rr.2.2.1, Option.bind_some, nI_lt (show i < rn by omega) (by omega), if_true, gR_n (kk201 hl), LR hl, rI_n (kk211 hl) (show i < 5 by omega) (by decide), e3, i5, rI_n (kk209 hl) (show 5 * rowN h i + 1 < 40 by omega) (by decide), p4, nI_l (show v < 2 ^ 31 by omega)]
      rw [e11]
      simp only [Option.bind_some, show (10 : Int64) = lN 10 from rfl, power_M h 10 r1 h3, i6, rI_n (kk209 hl) (show 5 * rowN h i < 40 by omega) (by decide), p2, nI_l (show prN h (rowN h i) < 2 ^ 31 by omega), power_M h _ r1 h3, lN_sub (pow_le3 p3), lN_mul, lN_add, nI_1]
      rw [ih (i + 1) n _ _ _ (by omega) (by omega)]
      obtain ⟨P, eP⟩ : ∃ P, P = 10 ^ r := ⟨_, rfl⟩
      rw [← eP]
      congr 2
      · rw [bkM, show rn - (d + 1) = i by omega]
        show _ = A * P ^ (d + 1) + G * (mOf h r i * P ^ d + qOf h r i * _)
        unfold mOf qOf goQ
        rw [← ev, ← eP, Nat.pow_succ]
        simp only [Nat.add_mul, Nat.mul_add, Nat.mul_assoc, Nat.mul_comm, Nat.mul_left_comm, Nat.add_assoc]
      · rw [Nat.pow_succ]
        simp only [Nat.mul_assoc, Nat.mul_comm, Nat.mul_left_comm]
  have := main rn 0 FU 0 1 1 (by omega) (by unfold FU; omega)
  rw [Nat.zero_mul, Nat.zero_add, Nat.one_mul, Nat.one_mul] at this
  exact this
theorem part_C (h : AH) (x : Int32) : f_C_isPart h x = some (if x < 0 then 0 else if x < nI 2 then 1 else 0) := by
  unfold f_C_isPart
  rcases ix_cases x (n := 2) (by decide) with ⟨j, hj, rfl⟩ | h0 | ⟨h0, h1⟩
  · rw [if_neg (nI_n0 j (by omega)), if_pos (nI_lt hj (by decide))]
    rcases (show j = 0 ∨ j = 1 by omega) with rfl | rfl
    · rfl
    · rfl
  · rw [if_pos h0, if_neg (fun e => by rw [e] at h0; exact absurd h0 (by decide)), if_neg (fun e => by rw [e] at h0; exact absurd h0 (by decide))]
  · rw [if_neg h0, if_neg h1, if_neg (fun e => by rw [e] at h1; exact absurd h1 (by decide)), if_neg (fun e => by rw [e] at h1; exact absurd h1 (by decide))]
theorem tries_in (h : AH) (x : Int32) : f_C_isTries h x = some (if x < 1 then 0 else if 3 < x then 0 else 1) := by
  unfold f_C_isTries
  split
  · rfl
  · split <;> rfl
theorem o_chance (hl : Lay h) (rh : RHelp h hn ha) (rr : RRow h hn rn) (x y : Int32) : ∃ v, f_C_chance h 4 x y = some v ∧ f_M_chance h 201 x y = some v := by
  have iM : f_M_in h y (0 : Int32) (1 : Int32) = some (if y < 0 then 0 else if y < nI 2 then 1 else 0) := in_Mk h y (n := 1) (by decide)
  have h5 := rr.1
  simp only [f_C_chance, f_M_chance, tries_in, in_M h x, iM, part_C, Option.bind_some]
  by_cases q : (if x < 1 then (0 : Int32) else if 3 < x then 0 else 1) = 0
  · exact ⟨-102, by rw [if_pos q], by rw [if_pos q]⟩
  · by_cases p : (if y < 0 then (0 : Int32) else if y < nI 2 then 1 else 0) = 0
    · exact ⟨-102, by rw [if_neg q, if_pos p], by rw [if_neg q, if_pos p]⟩
    · rw [if_neg q, if_neg p, if_neg q, if_neg p]
      obtain ⟨r, r1, h3, rfl⟩ : ∃ r, 1 ≤ r ∧ r ≤ 3 ∧ x = nI r := by
        rcases ix_cases x (n := 4) (by decide) with ⟨j, hj, rfl⟩ | h0 | ⟨h0, h1⟩
        · refine ⟨j, ?_, by omega, rfl⟩
          apply Nat.pos_of_ne_zero
          intro z
          subst z
          exact q (by rw [if_pos (by decide)])
        · exact absurd (if_pos (Int32.lt_trans h0 (by decide))) q
        · exfalso
          apply q
          have : (3 : Int32) < x := (lt_nI (n := 3) (by decide) x).mpr h1
          split <;> first | rfl | rw [if_pos this]
      have hq : ∀ i, qOf h r i ≤ 1000 := fun i => by unfold qOf goQ; have := ten_le h3; omega
      have a1 : prq (qOf h r) rn < 2 ^ 63 := Nat.lt_of_le_of_lt (prq_le hq rn) (Nat.lt_of_le_of_lt (Nat.pow_le_pow_right (by decide) h5) (by decide))
      have b1 : (10 ^ r) ^ rn < 2 ^ 62 := Nat.lt_of_le_of_lt (Nat.pow_le_pow_left (ten_le h3) rn) (Nat.lt_of_le_of_lt (Nat.pow_le_pow_right (by decide) h5) (by decide))
      have b0 : 0 < (10 ^ r) ^ rn := Nat.pow_pos (Nat.pow_pos (by decide))
      rw [chances_C hl rh rr h3, chances_M hl rh rr r1 h3, low_C h a1 b1 b0, low_M h a1 b1 b0]
      exact ⟨_, rfl, rfl⟩
theorem o_mean (hl : Lay h) (rh : RHelp h hn ha) (rr : RRow h hn rn) (x y : Int32) : ∃ v, f_C_mean h 4 x y = some v ∧ f_M_mean h 201 x y = some v := by
  have iM : f_M_in h y (0 : Int32) (1 : Int32) = some (if y < 0 then 0 else if y < nI 2 then 1 else 0) := in_Mk h y (n := 1) (by decide)
  have h5 := rr.1
  simp only [f_C_mean, f_M_mean, tries_in, in_M h x, iM, part_C, Option.bind_some, gR_n (kk4 hl), LR hl, gI_n (c := 8) (kk107 hl), rr.2.1]
  by_cases q : (if x < 1 then (0 : Int32) else if 3 < x then 0 else 1) = 0
  · exact ⟨-102, by rw [if_pos q], by rw [if_pos q]⟩
  · by_cases p : (if y < 0 then (0 : Int32) else if y < nI 2 then 1 else 0) = 0
    · exact ⟨-102, by rw [if_neg q, if_pos p], by rw [if_neg q, if_pos p]⟩
    · rw [if_neg q, if_neg p, if_neg q, if_neg p]
      obtain ⟨r, r1, h3, rfl⟩ : ∃ r, 1 ≤ r ∧ r ≤ 3 ∧ x = nI r := by
        rcases ix_cases x (n := 4) (by decide) with ⟨j, hj, rfl⟩ | h0 | ⟨h0, h1⟩
        · refine ⟨j, ?_, by omega, rfl⟩
          apply Nat.pos_of_ne_zero
          intro z
          subst z
          exact q (by rw [if_pos (by decide)])
        · exact absurd (if_pos (Int32.lt_trans h0 (by decide))) q
        · exfalso
          apply q
          have : (3 : Int32) < x := (lt_nI (n := 3) (by decide) x).mpr h1
          split <;> first | rfl | rw [if_pos this]
      have hq : ∀ i, qOf h r i ≤ 1000 := fun i => by unfold qOf goQ; have := ten_le h3; omega
      have b1 : (10 ^ r) ^ rn < 2 ^ 62 := Nat.lt_of_le_of_lt (Nat.pow_le_pow_left (ten_le h3) rn) (Nat.lt_of_le_of_lt (Nat.pow_le_pow_right (by decide) h5) (by decide))
      have b0 : 0 < (10 ^ r) ^ rn := Nat.pow_pos (Nat.pow_pos (by decide))
      have a1 : bkM (mOf h r) (qOf h r) (10 ^ r) rn rn < 2 ^ 63 := by
        have key : ∀ M : Nat → Nat, (∀ i, i < rn → M i ≤ 136000) → ∀ d, d ≤ rn → bkM M (qOf h r) (10 ^ r) rn d ≤ d * 136 * 1000 ^ d := by
          intro M hM d hd
          have e : ∀ d, d ≤ rn → bkM M (qOf h r) (10 ^ r) rn d = bkM (fun i => if i < rn then M i else 0) (qOf h r) (10 ^ r) rn d := by
            intro d
            induction d with
            | zero => intro _; rfl
            | succ d ih => intro hd; simp only [bkM]; rw [ih (by omega), if_pos (by omega)]
          rw [e d hd]
          refine bkM_le (fun i => ?_) hq (ten_le h3) d
          by_cases z : i < rn
          · rw [if_pos z]; exact hM i z
          · rw [if_neg z]; omega
        have := key (mOf h r) (fun i hi => by
          obtain ⟨H, _⟩ := row_hp hl rh rr hi
          obtain ⟨p1, p2, p3, p4⟩ := H.pr
          unfold mOf
          have s1 := smT_le r (by omega) (fvN h (rowN h i)) (by omega)
          have := Nat.mul_le_mul p1 s1
          omega) rn (Nat.le_refl _)
        rcases (show rn = 0 ∨ rn = 1 ∨ rn = 2 ∨ rn = 3 ∨ rn = 4 ∨ rn = 5 by omega) with z | z | z | z | z | z <;> rw [z] at this ⊢ <;> exact Nat.lt_of_le_of_lt this (by decide)
      rw [means_C hl rh rr h3, means_M hl rh rr r1 h3, low_C h a1 b1 b0, low_M h a1 b1 b0]
      exact ⟨_, rfl, rfl⟩
end CM
