/-! WHICH STATES FIT: pairs of states as sets; both programs find the greatest set that keeps the rules -/
theorem hb_bit (x : Int32) {i : Nat} (hi : i < 31) : hb x i = x.toBitVec.getLsbD i := by
  have hs : ((nI i &&& 31).toBitVec.smod 32).toNat = i := by
    have : ∀ i, i < 31 → ((nI i &&& 31).toBitVec.smod 32).toNat = i := by decide
    exact this i hi
  have e : (x >>> (nI i &&& 31)).toBitVec.getLsbD 0 = x.toBitVec.getLsbD i := by
    rw [Int32.toBitVec_shiftRight]
    show (x.toBitVec.sshiftRight (BitVec.toNat _)).getLsbD 0 = _
    rw [hs, BitVec.getLsbD_sshiftRight]
    simp [show i < 32 by omega]
  have o : ((1 : Int32)).toBitVec.getLsbD 0 = true := by decide
  unfold hb
  rcases and1 (x >>> (nI i &&& 31)) with q | q
  · have := congrArg (fun v : Int32 => v.toBitVec.getLsbD 0) q
    simp only [Int32.toBitVec_and, BitVec.getLsbD_and, e, o, Bool.and_true] at this
    rw [q, this]; decide
  · have := congrArg (fun v : Int32 => v.toBitVec.getLsbD 0) q
    simp only [Int32.toBitVec_and, BitVec.getLsbD_and, e, o, Bool.and_true] at this
    rw [q, this]; decide
theorem hb_drop (v : Int32) {i j : Nat} (hi : i < 31) (hj : j < 31) : hb (v &&& (((1 : Int32) <<< (nI j &&& 31)) ^^^ (-1 : Int32))) i = (hb v i && !decide (i = j)) := by
  have m1 : ∀ i, i < 31 → (-1 : Int32).toBitVec.getLsbD i = true := by decide
  rw [hb_bit _ hi, hb_bit _ hi, Int32.toBitVec_and, BitVec.getLsbD_and, Int32.toBitVec_xor, BitVec.getLsbD_xor, shl1 hj, nI_bit _ _ (by omega), m1 i hi, Nat.testBit_two_pow]
  by_cases e : i = j
  · subst e; simp
  · simp [e, show ¬ j = i from fun z => e z.symm]
theorem cnS_lt {S S' : Nat → Bool} : ∀ n z, (∀ i, i < n → S' i = true → S i = true) → z < n → S z = true → S' z = false → cnS S' n < cnS S n
  | 0, _, _, h, _, _ => by omega
  | n + 1, z, m, h, s1, s2 => by
    have le : ∀ k, k ≤ n + 1 → cnS S' k ≤ cnS S k := by
      intro k
      induction k with
      | zero => intro _; exact Nat.le_refl _
      | succ k ih =>
        intro hk
        have h1 := ih (by omega)
        have h2 := m k (by omega)
        simp only [cnS]
        by_cases q : S' k = true
        · rw [if_pos q, if_pos (h2 q)]; omega
        · rw [if_neg q]; omega
    by_cases e : z = n
    · subst e
      have := le z (by omega)
      simp only [cnS]
      rw [if_pos s1, s2]
      simp
      omega
    · have ih := cnS_lt n z (fun i hi => m i (by omega)) (by omega) s1 s2
      have h2 := m n (by omega)
      simp only [cnS]
      by_cases q : S' n = true
      · rw [if_pos q, if_pos (h2 q)]; omega
      · rw [if_neg q]; omega
def okM (h : AH) (x y : Nat) (G : Nat → Nat → Bool) (p q i : Nat) : Bool := (!(hrs h y q).testBit i || G (nx h x p i).toNatClampNeg (nx h y q i).toNatClampNeg) && (!(sys h x p).testBit i || G (nx h x p (8 + i)).toNatClampNeg (nx h y q (8 + i)).toNatClampNeg)
def latB (h : AH) (x y : Nat) (G : Nat → Nat → Bool) (p q : Nat) : Nat → Bool
  | 0 => true
  | d + 1 => okM h x y G p q (7 - d) && latB h x y G p q d
def nowB (h : AH) (x y p q : Nat) : Bool := decide (nI (hrs h y q) &&& (nI (hrs h x p) ^^^ (-1 : Int32)) = 0) && decide (nI (sys h x p) &&& (nI (sys h y q) ^^^ (-1 : Int32)) = 0) && (!decide (nI (sys h x p) = 0) || decide (nI (sys h y q) = 0)) && decide (en h x p = en h y q)
def okB (h : AH) (x y : Nat) (G : Nat → Nat → Bool) (p q : Nat) : Bool := nowB h x y p q && latB h x y G p q 8
def GR (n m : Nat) (G : Nat → Nat → Bool) (p q : Nat) : Bool := decide (p ≤ n) && decide (q ≤ m) && G p q
def crd (G : Nat → Nat → Bool) : Nat := cnS (fun z => G (z / 25) (z % 25)) 625
/-- a set of pairs that keeps the rules -/
def Cl (h : AH) (x y n m : Nat) (C : Nat → Nat → Bool) : Prop := ∀ p q, C p q = true → p ≤ n ∧ q ≤ m ∧ okB h x y C p q = true
/-- the greatest one -/
def GF (h : AH) (x y n m : Nat) (G : Nat → Nat → Bool) : Prop := Cl h x y n m G ∧ ∀ C, Cl h x y n m C → ∀ p q, C p q = true → G p q = true
theorem GF.uni {h : AH} {x y n m : Nat} {G G' : Nat → Nat → Bool} (a : GF h x y n m G) (b : GF h x y n m G') (p q : Nat) : G p q = G' p q := by
  apply Bool.eq_iff_iff.mpr
  exact ⟨fun z => b.2 G a.1 p q z, fun z => a.2 G' b.1 p q z⟩
theorem crd_le (G : Nat → Nat → Bool) : crd G ≤ 625 := cnS_le _ 625
theorem crd_lt {G G' : Nat → Nat → Bool} {p q : Nat} (hp : p ≤ 24) (hq : q ≤ 24) (hs : ∀ p q, G' p q = true → G p q = true) (g1 : G p q = true) (g2 : G' p q = false) : crd G' < crd G := by
  have e1 : (25 * p + q) / 25 = p := by omega
  have e2 : (25 * p + q) % 25 = q := by omega
  refine cnS_lt 625 (25 * p + q) (fun i _ z => hs _ _ z) (by omega) ?_ ?_
  · rw [e1, e2]; exact g1
  · rw [e1, e2]; exact g2
theorem sub_bit {a b i : Nat} (e : nI a &&& (nI b ^^^ (-1 : Int32)) = 0) (hi : i < 31) (q : a.testBit i = true) : b.testBit i = true := by
  have m1 : ∀ i, i < 31 → (-1 : Int32).toBitVec.getLsbD i = true := by decide
  have := congrArg (fun v : Int32 => v.toBitVec.getLsbD i) e
  simp only [Int32.toBitVec_and, BitVec.getLsbD_and, Int32.toBitVec_xor, BitVec.getLsbD_xor, nI_bit _ _ (show i < 32 by omega), m1 i hi, q] at this
  have z : (0 : Int32).toBitVec.getLsbD i = false := by show (0#32).getLsbD i = false; simp
  rw [z] at this
  revert this
  cases b.testBit i <;> decide
theorem latB_mono {h : AH} {x y p q : Nat} {C G : Nat → Nat → Bool} (hs : ∀ p q, C p q = true → G p q = true) : ∀ d, latB h x y C p q d = true → latB h x y G p q d = true
  | 0, _ => rfl
  | d + 1, e => by
    rw [latB, Bool.and_eq_true] at e ⊢
    refine ⟨?_, latB_mono hs d e.2⟩
    have := e.1
    unfold okM at this ⊢
    rw [Bool.and_eq_true, Bool.or_eq_true, Bool.or_eq_true] at this ⊢
    exact ⟨this.1.imp id (hs _ _), this.2.imp id (hs _ _)⟩
theorem okB_mono {h : AH} {x y p q : Nat} {C G : Nat → Nat → Bool} (hs : ∀ p q, C p q = true → G p q = true) (e : okB h x y C p q = true) : okB h x y G p q = true := by
  unfold okB at e ⊢
  rw [Bool.and_eq_true] at e ⊢
  exact ⟨e.1, latB_mono hs 8 e.2⟩
theorem okB_same {h g : AH} (e1 : nx g = nx h) (e2 : en g = en h) (x y : Nat) (G : Nat → Nat → Bool) (p q : Nat) : okB g x y G p q = okB h x y G p q := by
  have a1 : hrs g = hrs h := by funext t s; unfold hrs; rw [e1]
  have a2 : sys g = sys h := by funext t s; unfold sys; rw [e1]
  have a3 : ∀ d, latB g x y G p q d = latB h x y G p q d := by
    intro d
    induction d with
    | zero => rfl
    | succ d ih => rw [latB, latB, ih]; unfold okM; rw [a1, a2, e1]
  unfold okB nowB
  rw [a1, a2, e2, a3]
section FT
variable {h g : AH} {x y a b n m p q : Nat}
theorem now_h (T1 : TK h x a n) (T2 : TK h y b m) (hp : p ≤ n) (hq : q ≤ m) (N : nowB h x y p q = true) {i : Nat} (hi : i < 8) (z : (hrs h y q).testBit i = true) : ∃ j j', j ≤ n ∧ j' ≤ m ∧ nx h x p i = nI j ∧ nx h y q i = nI j' := by
  unfold nowB at N
  simp only [Bool.and_eq_true, decide_eq_true_eq] at N
  have z' := sub_bit N.1.1.1 (show i < 31 by omega) z
  rw [hrs_bit _ _ _ hi, decide_eq_true_eq] at z z'
  rcases T1.nxt hp (show i < 16 by omega) with e | ⟨j, j1, j2, j3⟩
  · exact absurd e z'
  · rcases T2.nxt hq (show i < 16 by omega) with e | ⟨j', k1, k2, k3⟩
    · exact absurd e z
    · exact ⟨j, j', j2, k2, j3, k3⟩
theorem now_s (T1 : TK h x a n) (T2 : TK h y b m) (hp : p ≤ n) (hq : q ≤ m) (N : nowB h x y p q = true) {i : Nat} (hi : i < 8) (z : (sys h x p).testBit i = true) : ∃ j j', j ≤ n ∧ j' ≤ m ∧ nx h x p (8 + i) = nI j ∧ nx h y q (8 + i) = nI j' := by
  unfold nowB at N
  simp only [Bool.and_eq_true, decide_eq_true_eq] at N
  have z' := sub_bit N.1.1.2 (show i < 31 by omega) z
  rw [sys_bit _ _ _ hi, decide_eq_true_eq] at z z'
  rcases T1.nxt hp (show 8 + i < 16 by omega) with e | ⟨j, j1, j2, j3⟩
  · exact absurd e z
  · rcases T2.nxt hq (show 8 + i < 16 by omega) with e | ⟨j', k1, k2, k3⟩
    · exact absurd e z'
    · exact ⟨j, j', j2, k2, j3, k3⟩
theorem ok_GR (T1 : TK h x a n) (T2 : TK h y b m) (hp : p ≤ n) (hq : q ≤ m) (G : Nat → Nat → Bool) : okB h x y (GR n m G) p q = okB h x y G p q := by
  have t1 := T1.1
  have t2 := T2.1
  unfold okB
  cases N : nowB h x y p q with
  | false => rfl
  | true =>
    rw [Bool.true_and, Bool.true_and]
    have : ∀ d, d ≤ 8 → latB h x y (GR n m G) p q d = latB h x y G p q d := by
      intro d
      induction d with
      | zero => intro _; rfl
      | succ d ih =>
        intro hd
        rw [latB, latB, ih (by omega)]
        congr 1
        unfold okM
        congr 1
        · cases z : (hrs h y q).testBit (7 - d) with
          | false => rfl
          | true =>
            obtain ⟨j, j', k1, k2, k3, k4⟩ := now_h T1 T2 hp hq N (show 7 - d < 8 by omega) z
            rw [k3, k4, cl_nI (by omega), cl_nI (by omega)]
            unfold GR
            simp [k1, k2]
        · cases z : (sys h x p).testBit (7 - d) with
          | false => rfl
          | true =>
            obtain ⟨j, j', k1, k2, k3, k4⟩ := now_s T1 T2 hp hq N (show 7 - d < 8 by omega) z
            rw [k3, k4, cl_nI (by omega), cl_nI (by omega)]
            unfold GR
            simp [k1, k2]
    exact this 8 (Nat.le_refl _)
/-! the class -/
def GC (g : AH) (p q : Nat) : Bool := hb (hI g 99 p) q
theorem holds_C (hl : Lay g) (hp : p ≤ 24) : f_Fi_holds g 98 (nI p) (nI q) = some (bI (GC g p q)) := by
  have : (bI (GC g p q) = 0 ∨ bI (GC g p q) = 1) := by cases GC g p q <;> decide
  simp only [f_Fi_holds, gR_n (c := 2) (kk98 hl), LR hl, Option.bind_some, rI_n (kk99 hl) (show p < 25 by omega) (by decide), hasBit_C]
  exact if_pos this
theorem mayEnd_T (T : TK h x a n) (hp : p ≤ n) : f_Ta_mayEnd h a (nI p) = some (en h x p) := by
  have h24 := T.1
  have h1 := msk_lt (fun s => decide (en h x s = 1)) (n + 1)
  have h2 : 2 ^ (n + 1) ≤ 2 ^ 25 := Nat.pow_le_pow_right (by decide) (by omega)
  simp only [f_Ta_mayEnd, gI_n (c := 9) T.2.2.2.1.1, Option.bind_some, T.2.2.2.2.2.2.2.2.2.1]
  have hb := bit_0 (n := msk (fun s => decide (en h x s = 1)) (n + 1)) (i := p) (by omega) (by omega)
  rw [msk_bit] at hb
  rcases T.2.2.2.2.2.2.2.2.1 p hp with q | q
  · rw [if_pos (hb.mpr (by rw [q]; simp)), q]
  · rw [if_neg (fun z => by have := hb.mp z; rw [q] at this; simp at this; omega), q]
theorem now_C (hl : Lay g) (T1 : TK g x a n) (T2 : TK g y b m) (r1 : hR g 98 1 = some a) (r2 : hR g 98 2 = some b) (hp : p ≤ n) (hq : q ≤ m) : f_Fi_fitsNow g 98 (nI p) (nI q) = some (bI (nowB g x y p q)) := by
  simp only [f_Fi_fitsNow, gR_n (c := 2) (kk98 hl), r1, r2, Option.bind_some, (T1.hears hp).1, (T1.hears hp).2, (T2.hears hq).1, (T2.hears hq).2, (T1.says hp).1, (T1.says hp).2, (T2.says hq).1, (T2.says hq).2, cv_n (c := 9) T1.2.2.2.1.1, cv_n (c := 9) T2.2.2.2.1.1, mayEnd_T T1 hp, mayEnd_T T2 hq]
  unfold nowB
  by_cases c1 : nI (hrs g y q) &&& (nI (hrs g x p) ^^^ (-1 : Int32)) = 0
  · rw [if_pos c1, decide_eq_true c1]
    by_cases c2 : nI (sys g x p) &&& (nI (sys g y q) ^^^ (-1 : Int32)) = 0
    · rw [if_pos c2, decide_eq_true c2]
      by_cases c3 : nI (sys g x p) = 0
      · rw [if_pos c3, decide_eq_true c3]
        by_cases c4 : nI (sys g y q) = 0
        · rw [if_pos c4, decide_eq_true c4]
          by_cases c5 : en g x p = en g y q
          · rw [if_pos c5, decide_eq_true c5]; rfl
          · rw [if_neg c5, decide_eq_false c5]; rfl
        · rw [if_neg c4, decide_eq_false c4]; rfl
      · rw [if_neg c3, decide_eq_false c3]
        by_cases c5 : en g x p = en g y q
        · rw [if_pos c5, decide_eq_true c5]; rfl
        · rw [if_neg c5, decide_eq_false c5]; rfl
    · rw [if_neg c2, decide_eq_false c2]; rfl
  · rw [if_neg c1, decide_eq_false c1]; rfl
theorem later_C (hl : Lay g) (T1 : TK g x a n) (T2 : TK g y b m) (r1 : hR g 98 1 = some a) (r2 : hR g 98 2 = some b) (hp : p ≤ n) (hq : q ≤ m) (N : nowB g x y p q = true) : f_Fi_fitsLater g 98 (nI p) (nI q) = some (bI (latB g x y (GC g) p q 8)) := by
  have t1 := T1.1
  have t2 := T2.1
  have main : ∀ d i k, i + d = 8 → d < k → f_Fi_fitsLater_L2 g 98 (nI p) (nI q) k (nI i) = some (bI (latB g x y (GC g) p q d)) := by
    intro d
    induction d with
    | zero =>
      intro i k h1 h2
      obtain ⟨k, rfl⟩ : ∃ q, k = q + 1 := ⟨k - 1, by omega⟩
      have : i = 8 := by omega
      subst this
      simp only [f_Fi_fitsLater_L2, show ¬ nI 8 < 8 by decide, if_false]
      rfl
    | succ d ih =>
      intro i k h1 h2
      obtain ⟨k, rfl⟩ : ∃ q, k = q + 1 := ⟨k - 1, by omega⟩
      have hi : i < 8 := by omega
      have qi : nI i < 8 := nI_lt (b := 8) hi (by decide)
      have hl1 := hrs_lt g y q
      have hl2 := sys_lt g x p
      have i7 : 7 - d = i := by omega
      have IH := ih (i + 1) k (by omega) (by omega)
      have b0 := T1.behind (g := 0) hp (by decide) hi
      have b1 := T1.behind (g := 1) hp (by decide) hi
      have c0 := T2.behind (g := 0) hq (by decide) hi
      have c1 := T2.behind (g := 1) hq (by decide) hi
      rw [show 8 * 0 + i = i by omega] at b0 c0
      rw [show 8 * 1 + i = 8 + i by omega] at b1 c1
      rw [nI_0] at b0 c0
      rw [show nI 1 = (1 : Int32) from rfl] at b1 c1
      simp only [f_Fi_fitsLater_L2, qi, if_true, gR_n (c := 2) (kk98 hl), r1, r2, Option.bind_some, (T2.hears hq).1, (T2.hears hq).2, (T1.says hp).1, (T1.says hp).2, hasBit_C, hb_nI (show hrs g y q < 2 ^ 31 by omega) (show i < 31 by omega), hb_nI (show sys g x p < 2 ^ 31 by omega) (show i < 31 by omega), bI0, cv_n (c := 9) T1.2.2.2.1.1, cv_n (c := 9) T2.2.2.2.1.1, b0, b1, c0, c1, cv_n (c := 2) (kk98 hl), nI_1, IH]
      rw [latB, i7]
      unfold okM
      have S : ∀ w : Bool, (if (sys g x p).testBit i = false then some (bI w) else (f_Fi_holds g 98 (nx g x p (8 + i)) (nx g y q (8 + i))).bind fun x19 => if x19 = 0 then some (0 : Int32) else some (bI w)) = some (bI ((!(sys g x p).testBit i || GC g (nx g x p (8 + i)).toNatClampNeg (nx g y q (8 + i)).toNatClampNeg) && w)) := by
        intro w
        cases z : (sys g x p).testBit i with
        | false => rfl
        | true =>
          obtain ⟨j, j', k1, k2, k3, k4⟩ := now_s T1 T2 hp hq N hi z
          rw [if_neg (by decide), k3, k4, holds_C hl (by omega), Option.bind_some, cl_nI (by omega), cl_nI (by omega)]
          cases GC g j j' <;> rfl
      cases z : (hrs g y q).testBit i with
      | false =>
        rw [if_pos rfl, S]
        rfl
      | true =>
        obtain ⟨j, j', k1, k2, k3, k4⟩ := now_h T1 T2 hp hq N hi z
        rw [if_neg (by decide), k3, k4, holds_C hl (by omega), Option.bind_some, cl_nI (by omega), cl_nI (by omega)]
        cases GC g j j' with
        | false => rfl
        | true =>
          simp only [bI, if_true, show ¬ ((1 : Int32) = 0) by decide, if_false]
          have := S (latB g x y (GC g) p q d)
          simp only [bI] at this
          rw [this]
          rfl
  exact main 8 0 FU rfl (by unfold FU; omega)
end FT
