/-! THE WORLD AT A NUMBER, WHERE THE LOG BREAKS, WHETHER A CALL MAY BE DONE AGAIN -/
theorem cnS_uni {S : Nat → Bool} {a b : Nat} (ha : S a = true) (hb : S b = true) (e : cnS S a = cnS S b) : a = b := by
  have lt : ∀ a b, S a = true → a < b → cnS S a < cnS S b := by
    intro a b ha h
    have h1 : cnS S (a + 1) = cnS S a + 1 := by simp [cnS, ha]
    have := cnS_mono S (show a + 1 ≤ b from h)
    omega
  rcases Nat.lt_trichotomy a b with q | q | q
  · have := lt a b ha q; omega
  · exact q
  · have := lt b a hb q; omega
theorem cnS_find (S : Nat → Bool) : ∀ n i, i < cnS S n → ∃ w, w < n ∧ S w = true ∧ cnS S w = i
  | 0, i, h => by simp [cnS] at h
  | n + 1, i, h => by
    by_cases q : i < cnS S n
    · obtain ⟨w, w1, w2, w3⟩ := cnS_find S n i q
      exact ⟨w, by omega, w2, w3⟩
    · simp only [cnS] at h
      by_cases s : S n = true
      · rw [if_pos s] at h
        exact ⟨n, by omega, s, by omega⟩
      · rw [if_neg s] at h; omega
/-- the lowest bit -/
theorem low_bit {R p : Nat} (hp : R.testBit p = true) (hq : ∀ q, q < p → R.testBit q = false) : 0 < R ∧ ∀ j, (R - 1).testBit j = if j < p then true else if j = p then false else R.testBit j := by
  have e1 : R % 2 ^ (p + 1) = 2 ^ p := by
    apply Nat.eq_of_testBit_eq
    intro i
    rw [Nat.testBit_mod_two_pow, Nat.testBit_two_pow]
    rcases Nat.lt_trichotomy i p with q | q | q
    · rw [hq i q]; simp; omega
    · subst q; rw [hp]; simp
    · simp [show ¬ i < p + 1 by omega, show ¬ p = i by omega]
  have e2 : R = 2 ^ (p + 1) * (R / 2 ^ (p + 1)) + 2 ^ p := by
    have := Nat.div_add_mod R (2 ^ (p + 1))
    rw [e1] at this
    exact this.symm
  have p1 : 0 < 2 ^ p := Nat.two_pow_pos p
  have p2 : 2 ^ (p + 1) = 2 * 2 ^ p := by rw [Nat.pow_succ, Nat.mul_comm]
  refine ⟨by omega, fun j => ?_⟩
  obtain ⟨m, em⟩ : ∃ m, m = R / 2 ^ (p + 1) := ⟨_, rfl⟩
  rw [← em] at e2
  have e3 : R - 1 = 2 ^ (p + 1) * m + (2 ^ p - 1) := by omega
  rw [e3, Nat.testBit_two_pow_mul_add m (show 2 ^ p - 1 < 2 ^ (p + 1) by omega), Nat.testBit_two_pow_sub_one]
  by_cases z : j < p
  · rw [if_pos z, if_pos (by omega), decide_eq_true z]
  · rw [if_neg z]
    by_cases y : j = p
    · subst y; rw [if_pos rfl, if_pos (by omega)]; simp
    · rw [if_neg y, if_neg (by omega)]
      have : R.testBit j = m.testBit (j - (p + 1)) := by
        rw [e2, Nat.testBit_two_pow_mul_add m (show 2 ^ p < 2 ^ (p + 1) by omega), if_neg (by omega)]
      rw [this]
theorem drop_low (x : Int64) {p : Nat} (hp : x.toBitVec.getLsbD p = true) (hq : ∀ q, q < p → x.toBitVec.getLsbD q = false) (j : Nat) : (x &&& (x - 1)).toBitVec.getLsbD j = (x.toBitVec.getLsbD j && !decide (j = p)) := by
  have hp' : x.toBitVec.toNat.testBit p = true := by rw [BitVec.testBit_toNat]; exact hp
  obtain ⟨l1, l2⟩ := low_bit hp' (fun q h => by rw [BitVec.testBit_toNat]; exact hq q h)
  have e1 : (x - 1).toBitVec.toNat = x.toBitVec.toNat - 1 := sub64 x 1 l1
  rw [Int64.toBitVec_and, BitVec.getLsbD_and, ← BitVec.testBit_toNat (x - 1).toBitVec, e1, l2 j]
  rcases Nat.lt_trichotomy j p with q | q | q
  · rw [hq j q]; simp
  · subst q; simp
  · rw [if_neg (by omega), if_neg (by omega), BitVec.testBit_toNat]; simp [show ¬ j = p by omega]
theorem low_pop (h : AH) (x : Int64) {p : Nat} (hp : x.toBitVec.getLsbD p = true) (hq : ∀ q, q < p → x.toBitVec.getLsbD q = false) : f_jL_bitCount h ((x &&& (-x)) - 1) = some (nI p) := by
  have p64 : p < 64 := by
    by_cases z : p < 64
    · exact z
    · rw [BitVec.getLsbD_of_ge _ _ (by omega)] at hp; cases hp
  have hp' : x.toBitVec.toNat.testBit p = true := by rw [BitVec.testBit_toNat]; exact hp
  obtain ⟨l1, l2⟩ := low_bit hp' (fun q h => by rw [BitVec.testBit_toNat]; exact hq q h)
  have lx := x.toBitVec.isLt
  have e1 : (-x).toBitVec.toNat = 2 ^ 64 - ((x.toBitVec.toNat - 1) + 1) := by
    rw [Int64.toBitVec_neg, BitVec.toNat_neg, Nat.mod_eq_of_lt (by omega)]
    omega
  have e2 : (x &&& (-x)).toBitVec.toNat = 2 ^ p := by
    rw [and64, e1]
    apply Nat.eq_of_testBit_eq
    intro j
    rw [Nat.testBit_and, Nat.testBit_two_pow_sub_succ (by omega), l2 j, Nat.testBit_two_pow]
    rcases Nat.lt_trichotomy j p with q | q | q
    · rw [BitVec.testBit_toNat, hq j q]; simp; omega
    · subst q; rw [hp']; simp [p64]
    · rw [if_neg (by omega), if_neg (by omega)]
      cases x.toBitVec.toNat.testBit j <;> simp <;> omega
  have e3 : ((x &&& (-x)) - 1).toBitVec.toNat = 2 ^ p - 1 := by
    have := sub64 (x &&& (-x)) 1 (by rw [e2]; exact Nat.two_pow_pos p)
    rw [e2] at this
    exact this
  rw [pop64]
  have : cnS (fun j => ((x &&& (-x)) - 1).toBitVec.getLsbD j) 64 = p := by
    have e4 : ∀ j, ((x &&& (-x)) - 1).toBitVec.getLsbD j = decide (j < p) := fun j => by rw [← BitVec.testBit_toNat, e3, Nat.testBit_two_pow_sub_one]
    rw [cnS_cong 64 (fun j _ => e4 j)]
    have : ∀ n, cnS (fun j => decide (j < p)) n = min n p := by
      intro n
      induction n with
      | zero => simp [cnS]
      | succ n ih =>
        simp only [cnS, ih, decide_eq_true_eq]
        by_cases z : n < p
        · rw [if_pos z]; omega
        · rw [if_neg z]; omega
    rw [this]; omega
  rw [this]
section WN
variable {h g : AH} {o c hn ev : Nat} {S : Nat → Bool} {ha : Nat → Nat}
theorem bitNumbered_C (h : AH) (x : Int64) {i : Nat} (hi : i < cnS (fun j => x.toBitVec.getLsbD j) 64) : ∃ p, p < 64 ∧ x.toBitVec.getLsbD p = true ∧ cnS (fun j => x.toBitVec.getLsbD j) p = i ∧ f_Wo_bitNumbered h x (nI i) = some (nI p) := by
  have hc := cnS_le (fun j => x.toBitVec.getLsbD j) 64
  have lowest : ∀ (d : Nat) (y : Int64), d < cnS (fun j => x.toBitVec.getLsbD j) 64 → (∀ j, y.toBitVec.getLsbD j = (x.toBitVec.getLsbD j && decide (d ≤ cnS (fun j => x.toBitVec.getLsbD j) j))) → ∃ p, p < 64 ∧ x.toBitVec.getLsbD p = true ∧ cnS (fun j => x.toBitVec.getLsbD j) p = d ∧ y.toBitVec.getLsbD p = true ∧ ∀ q, q < p → y.toBitVec.getLsbD q = false := by
    intro d y hd hy
    obtain ⟨p, p1, p2, p3⟩ := cnS_find _ 64 d hd
    refine ⟨p, p1, p2, p3, by rw [hy, p2, decide_eq_true (by omega)]; rfl, fun q hq => ?_⟩
    rw [hy]
    cases z : x.toBitVec.getLsbD q with
    | false => rfl
    | true =>
      have h1 : cnS (fun j => x.toBitVec.getLsbD j) (q + 1) = cnS (fun j => x.toBitVec.getLsbD j) q + 1 := by simp [cnS, z]
      have h2 := cnS_mono (fun j => x.toBitVec.getLsbD j) (show q + 1 ≤ p from hq)
      rw [decide_eq_false (by omega)]; rfl
  obtain ⟨p, p1, p2, p3⟩ := cnS_find (fun j => x.toBitVec.getLsbD j) 64 i hi
  refine ⟨p, p1, p2, p3, ?_⟩
  have main : ∀ e d n (y : Int64), d + e = i → e < n → (∀ j, y.toBitVec.getLsbD j = (x.toBitVec.getLsbD j && decide (d ≤ cnS (fun j => x.toBitVec.getLsbD j) j))) → f_Wo_bitNumbered_L5 h (nI i) (fun x2 => (f_jL_bitCount h ((x2 &&& (-x2)) - (1 : Int64))).bind fun x3 => some (x3)) n y (nI d) = some (nI p) := by
    intro e
    induction e with
    | zero =>
      intro d n y h1 h2 hy
      obtain ⟨n, rfl⟩ : ∃ q, n = q + 1 := ⟨n - 1, by omega⟩
      have : d = i := by omega
      subst this
      obtain ⟨p', q1, q2, q3, q4, q5⟩ := lowest d y hi hy
      have ep : p' = p := cnS_uni (S := fun j => x.toBitVec.getLsbD j) q2 p2 (by omega)
      subst ep
      simp only [f_Wo_bitNumbered_L5, nI_nlt (Nat.le_refl d) (by omega), if_false, low_pop h y q4 q5, Option.bind_some]
    | succ e ih =>
      intro d n y h1 h2 hy
      obtain ⟨n, rfl⟩ : ∃ q, n = q + 1 := ⟨n - 1, by omega⟩
      obtain ⟨p', q1, q2, q3, q4, q5⟩ := lowest d y (by omega) hy
      simp only [f_Wo_bitNumbered_L5, nI_lt (show d < i by omega) (by omega), if_true, Option.bind_some, nI_1]
      refine ih (d + 1) n _ (by omega) (by omega) (fun j => ?_)
      rw [drop_low y q4 q5 j, hy j]
      cases z : x.toBitVec.getLsbD j with
      | false => rfl
      | true =>
        by_cases e : j = p'
        · subst e
          rw [decide_eq_true rfl, decide_eq_false (show ¬ d + 1 ≤ cnS (fun j => x.toBitVec.getLsbD j) j by omega)]
          simp
        · have : ¬ cnS (fun j => x.toBitVec.getLsbD j) j = d := fun w => e (cnS_uni (S := fun j => x.toBitVec.getLsbD j) z q2 (by omega))
          rw [decide_eq_false e]
          have : decide (d ≤ cnS (fun j => x.toBitVec.getLsbD j) j) = decide (d + 1 ≤ cnS (fun j => x.toBitVec.getLsbD j) j) := decide_eq_decide.mpr (by omega)
          rw [this]; simp
  exact main i 0 FU x (by omega) (by unfold FU; omega) (fun j => by simp)
/-- the answer of world(n) -/
def NW (S : Nat → Bool) (n : Nat) (r : Int32) : Prop := (∃ w, w < 4096 ∧ S w = true ∧ cnS S w = n ∧ r = nI w) ∨ (cnS S 4096 ≤ n ∧ r = -1)
theorem NW.uni {n : Nat} {r r' : Int32} (a : NW S n r) (b : NW S n r') : r = r' := by
  have up : ∀ w, w < 4096 → S w = true → cnS S w < cnS S 4096 := by
    intro w hw s
    have h1 : cnS S (w + 1) = cnS S w + 1 := by simp [cnS, s]
    have := cnS_mono S (show w + 1 ≤ 4096 from hw)
    omega
  rcases a with ⟨w, w1, w2, w3, w4⟩ | ⟨a1, a2⟩
  · rcases b with ⟨v, v1, v2, v3, v4⟩ | ⟨b1, b2⟩
    · rw [w4, v4, cnS_uni w2 v2 (by omega)]
    · have := up w w1 w2; omega
  · rcases b with ⟨v, v1, v2, v3, v4⟩ | ⟨b1, b2⟩
    · have := up v v1 v2; omega
    · rw [a2, b2]
theorem numbered_C (w : WO h o c) (wr : WR h c S) {m : Nat} (hm : m < 2 ^ 31) : OK (f_Wo_numbered h o (nI m)) (NW S m) := by
  obtain ⟨K, eK⟩ : ∃ K : Int32 → Int32 → Option Int32, K = (fun x6 x7 =>
    (gR 11 h o 0).bind fun r8 =>
    (r8).bind fun a9 =>
    (rJ h a9 x7).bind fun x10 =>
    (f_Wo_bitNumbered h x10 x6).bind fun x11 =>
    some (((x7 <<< ((6 : Int32) &&& 31)) ||| x11))) := ⟨_, rfl⟩
  have main : ∀ d i n, i + d = 64 → d < n → cnS S (64 * i) ≤ m → OK (f_Wo_numbered_L4 h o K n (nI (m - cnS S (64 * i))) (nI i)) (NW S m) := by
    intro d
    induction d with
    | zero =>
      intro i n h1 h2 h3
      obtain ⟨n, rfl⟩ : ∃ q, n = q + 1 := ⟨n - 1, by omega⟩
      have : i = 64 := by omega
      subst this
      simp only [f_Wo_numbered_L4, show ¬ nI 64 < 64 by decide, if_false]
      exact OK.mk (Or.inr ⟨h3, rfl⟩)
    | succ d ih =>
      intro i n h1 h2 h3
      obtain ⟨n, rfl⟩ : ∃ q, n = q + 1 := ⟨n - 1, by omega⟩
      have q : i < 64 := by omega
      have qi : nI i < 64 := nI_lt (b := 64) q (by decide)
      have e : ∀ p, p ≤ 64 → cnS (fun j => (hJ h c i).toBitVec.getLsbD j) p = cnS (fun j => S (64 * i + j)) p := fun p hp => cnS_cong p (fun j hj => wr i q j (by omega))
      have c64 := cnS_le (fun j => S (64 * i + j)) 64
      have ad : cnS S (64 * (i + 1)) = cnS S (64 * i) + cnS (fun j => S (64 * i + j)) 64 := cnS_add S (64 * i) 64
      simp only [f_Wo_numbered_L4, qi, if_true, nI_n0 _ (show m - cnS S (64 * i) < 2 ^ 31 by omega), if_false, gR_n (c := 11) w.1, w.2.2.1, Option.bind_some, rJ_n w.2.1 q (by decide), pop64, e 64 (Nat.le_refl _)]
      by_cases y : m - cnS S (64 * i) < cnS (fun j => S (64 * i + j)) 64
      · rw [if_pos (nI_lt y (by omega))]
        obtain ⟨p, p1, p2, p3, p4⟩ := bitNumbered_C h (hJ h c i) (i := m - cnS S (64 * i)) (by rw [e 64 (Nat.le_refl _)]; exact y)
        rw [e p (by omega)] at p3
        have sh : (nI i <<< ((6 : Int32) &&& 31)) ||| nI p = nI (64 * i + p) := by
          rw [pk_shlN _ 6 (by decide) (by omega), nI_or]
          congr 1
          rw [show i * 2 ^ 6 = 2 ^ 6 * i by omega, ← Nat.two_pow_add_eq_or_of_lt (show p < 2 ^ 6 by omega)]
        simp only [eK, gR_n (c := 11) w.1, w.2.2.1, Option.bind_some, rJ_n w.2.1 q (by decide), p4, sh]
        refine OK.mk (Or.inl ⟨64 * i + p, by omega, by rw [← wr i q p p1]; exact p2, ?_, rfl⟩)
        rw [cnS_add]; omega
      · rw [if_neg (nI_nlt (by omega) (by omega)), pk_sub (by omega), nI_1]
        have := ih (i + 1) n (by omega) (by omega) (by omega)
        rw [ad] at this
        rw [show m - cnS S (64 * i) - cnS (fun j => S (64 * i + j)) 64 = m - (cnS S (64 * i) + cnS (fun j => S (64 * i + j)) 64) by omega]
        exact this
  unfold f_Wo_numbered
  rw [← eK]
  exact main 64 0 FU rfl (by unfold FU; omega) (Nat.zero_le _)
theorem world_M (hl : Lay h) (z : ZR h 235 S) {m : Nat} (hm : m < 2 ^ 31) : OK (f_M_world_L13 h 201 (nI m) FU (nI m) 0) (fun q => NW S m q.1 ∧ q.2 = h) := by
  have main : ∀ d i n, i + d = 4096 → d < n → cnS S i ≤ m → OK (f_M_world_L13 h 201 (nI m) n (nI (m - cnS S i)) (nI i)) (fun q => NW S m q.1 ∧ q.2 = h) := by
    intro d
    induction d with
    | zero =>
      intro i n h1 h2 h3
      obtain ⟨n, rfl⟩ : ∃ q, n = q + 1 := ⟨n - 1, by omega⟩
      have : i = 4096 := by omega
      subst this
      simp only [f_M_world_L13, show ¬ nI 4096 < 4096 by decide, if_false]
      exact OK.mk ⟨Or.inr ⟨h3, rfl⟩, rfl⟩
    | succ d ih =>
      intro i n h1 h2 h3
      obtain ⟨n, rfl⟩ : ∃ q, n = q + 1 := ⟨n - 1, by omega⟩
      have q : i < 4096 := by omega
      have qi : nI i < 4096 := nI_lt (b := 4096) q (by decide)
      simp only [f_M_world_L13, qi, if_true, nI_n0 m hm, if_false, gR_n (kk201 hl), LR hl, Option.bind_some, rI_n (kk235 hl) q (by decide), z i q, nI_1]
      cases s : S i with
      | false =>
        simp only [bI, Bool.false_eq_true, if_false, if_true]
        have e : cnS S (i + 1) = cnS S i := by simp [cnS, s]
        have := ih (i + 1) n (by omega) (by omega) (by omega)
        rw [e] at this
        exact this
      | true =>
        simp only [bI, if_true, show ¬ ((1 : Int32) = 0) by decide, if_false]
        have e : cnS S (i + 1) = cnS S i + 1 := by simp [cnS, s]
        by_cases y : m = cnS S i
        · rw [if_pos (by rw [y, Nat.sub_self]; rfl)]
          exact OK.mk ⟨Or.inl ⟨i, q, s, y.symm, rfl⟩, rfl⟩
        · rw [if_neg (nI_ne0 (by omega) (by omega))]
          have := ih (i + 1) n (by omega) (by omega) (by omega)
          rw [e] at this
          rw [show m - cnS S i = (m - (cnS S i + 1)) + 1 by omega, pk_m1]
          exact this
  exact main 4096 0 FU rfl (by unfold FU; omega) (Nat.zero_le _)
theorem bd2_v {α β γ : Type} (a : α) (b : β) (f : α → β → Option γ) : bd2 (some (a, b)) f = f a b := of_eq_true (eq_self (f a b))
theorem world_neg (g : AH) {x : Int32} (h0 : x < 0) (n : Nat) : f_M_world_L13 g 201 x (n + 1) x 0 = some (-1, g) := by
  have q : (0 : Int32) < 4096 := nI_lt (a := 0) (b := 4096) (by decide) (by decide)
  simp only [f_M_world_L13, q, if_true, h0]
theorem FU_succ : ∃ N, FU = N + 1 := ⟨FU - 1, by unfold FU; omega⟩
theorem o_world (hl : Lay h) (rh : RHelp h hn ha) (rl : RLog h hn ev) (x : Int32) : ∃ r h2, f_C_world h 4 x = some r ∧ f_M_world h 201 x = some (r, h2) ∧ Dfr SWd h h2 := by
  have h30 := rl.1
  obtain ⟨⟨r, g⟩, e, q, f, z⟩ := passAll_M hl rh rl (Nat.le_refl ev)
  dsimp only at q f z
  have lg := f.lay hl
  have wo := hl.wo (show ev < 31 by omega)
  have wr := rl.wr (Nat.le_refl ev)
  by_cases h0 : x < 0
  · refine ⟨-1, g, ?_, ?_, f⟩
    · have : f_Wo_numbered h (139 + 2 * ev) x = some (-1) := by
        unfold f_Wo_numbered
        obtain ⟨N, hN⟩ : ∃ N, FU = N + 1 := ⟨FU - 1, by unfold FU; omega⟩
        rw [hN]
        simp only [f_Wo_numbered_L4, show (0 : Int32) < 64 by decide, if_true, h0]
      simp only [f_C_world, gR_n (kk4 hl), LR hl, cv_n (c := 6) (kk135 hl), last_C hl rl, Option.bind_some, cv_n (c := 11) wo.1, this]
    · have : f_M_world_L13 g 201 x FU x 0 = some (-1, g) := by
        obtain ⟨N, hN⟩ := FU_succ
        rw [hN]
        exact world_neg g h0 N
      simp only [f_M_world, gI_n (kk201 hl), rl.2.2.1, Option.bind_some, cv_n (kk201 hl), e, bd2_v, this]
  · obtain ⟨m, hm, rfl⟩ := nI_of h0
    obtain ⟨r1, e1, n1⟩ := numbered_C wo wr hm
    obtain ⟨⟨r2, g2⟩, e2, n2, k2⟩ := world_M lg z hm
    dsimp only at n2 k2
    subst k2
    have er : r2 = r1 := n2.uni n1
    subst er
    refine ⟨r2, g2, ?_, ?_, f⟩
    · simp only [f_C_world, gR_n (kk4 hl), LR hl, cv_n (c := 6) (kk135 hl), last_C hl rl, Option.bind_some, cv_n (c := 11) wo.1, e1]
    · simp only [f_M_world, gI_n (kk201 hl), rl.2.2.1, Option.bind_some, cv_n (kk201 hl), e, bd2_v, e2]
theorem o_broken (hl : Lay h) (rh : RHelp h hn ha) (rl : RLog h hn ev) : ∃ r h2, f_C_broken h 4 = some r ∧ f_M_broken h 201 = some (r, h2) ∧ Dfr SWd h h2 := by
  have h30 := rl.1
  have main : ∀ d t, t + d = ev + 1 → ∃ r, (∀ n, d < n → f_C_broken_L2 h 4 n (nI t) = some r) ∧ ∀ n g, d < n → Dfr SWd h g → OK (f_M_brokenAt_L2 201 n (nI t) g) (fun q => q.1 = r ∧ Dfr SWd h q.2) := by
    intro d
    induction d with
    | zero =>
      intro t ht
      have q : nI ev < nI t := nI_lt (by omega) (by omega)
      refine ⟨0, fun n hn' => ?_, fun n g hn' f => ?_⟩
      · obtain ⟨n, rfl⟩ : ∃ q, n = q + 1 := ⟨n - 1, by omega⟩
        simp only [f_C_broken_L2, gR_n (kk4 hl), LR hl, Option.bind_some, gI_n (c := 6) (kk135 hl), rl.2.1, q, if_true]
      · obtain ⟨n, rfl⟩ : ∃ q, n = q + 1 := ⟨n - 1, by omega⟩
        have lg := f.lay hl
        have e18 : hI g 201 18 = nI ev := by rw [f.I (by unfold SWd; omega)]; exact rl.2.2.1
        simp only [f_M_brokenAt_L2, gI_n (kk201 lg), e18, Option.bind_some, q, if_true]
        exact OK.mk ⟨rfl, f⟩
    | succ d ih =>
      intro t ht
      obtain ⟨r, a, b⟩ := ih (t + 1) (by omega)
      have q : ¬ nI ev < nI t := nI_nlt (by omega) (by omega)
      have wo := hl.wo (show t < 31 by omega)
      have wr := rl.wr (show t ≤ ev by omega)
      have stepM : ∀ n g, d + 1 < n + 1 → Dfr SWd h g → OK (f_M_brokenAt_L2 201 (n + 1) (nI t) g) (fun q => q.1 = (if nI (cnS (wld h t) 4096) = 0 then nI t else r) ∧ Dfr SWd h q.2) := by
        intro n g hn' f
        have lg := f.lay hl
        have e18 : hI g 201 18 = nI ev := by rw [f.I (by unfold SWd; omega)]; exact rl.2.2.1
        obtain ⟨⟨r', g'⟩, e, qq, f', z⟩ := passAll_M lg (SWd_help hl rh f) (SWd_log hl rl f) (show t ≤ ev by omega)
        dsimp only at qq f' z
        subst qq
        rw [SWd_wld hl f] at e
        simp only [f_M_brokenAt_L2, gI_n (kk201 lg), e18, Option.bind_some, q, if_false, cv_n (kk201 lg), e, bd2, nI_1]
        by_cases y : nI (cnS (wld h t) 4096) = 0
        · rw [if_pos y, if_pos y]; exact OK.mk ⟨rfl, f.trans f'⟩
        · rw [if_neg y, if_neg y]; exact b n g' (by omega) (f.trans f')
      refine ⟨if nI (cnS (wld h t) 4096) = 0 then nI t else r, fun n hn' => ?_, fun n g hn' f => ?_⟩
      · obtain ⟨n, rfl⟩ : ∃ q, n = q + 1 := ⟨n - 1, by omega⟩
        simp only [f_C_broken_L2, gR_n (kk4 hl), LR hl, Option.bind_some, gI_n (c := 6) (kk135 hl), rl.2.1, q, if_false, gR_n (c := 6) (kk135 hl), rR_n (c := 11) (kk136 hl) (show t < 31 by omega) (by decide), (hl.wrld (show t < 31 by omega)).2.2.1, cv_n (c := 11) wo.1, size_C wo wr, nI_1]
        by_cases y : nI (cnS (wld h t) 4096) = 0
        · rw [if_pos y, if_pos y]
        · rw [if_neg y, if_neg y]; exact a n (by omega)
      · obtain ⟨n, rfl⟩ : ∃ q, n = q + 1 := ⟨n - 1, by omega⟩
        exact stepM n g hn' f
  obtain ⟨r, a, b⟩ := main ev 1 (by omega)
  obtain ⟨⟨r', g⟩, e, q, f⟩ := b FU h (by unfold FU; omega) Dfr.refl
  dsimp only at q f
  subst q
  refine ⟨r', g, a FU (by unfold FU; omega), ?_, f⟩
  have e' : f_M_brokenAt h 201 = some (r', g) := e
  simp only [f_M_broken, cv_n (kk201 hl), e', bd2, Option.bind_some]
end WN
section AG
variable {h g : AH} {o c hn ev : Nat} {S : Nat → Bool} {ha : Nat → Nat}
def agB (S : Nat → Bool) (nd gv tk : Nat) : Nat → Bool
  | 0 => true
  | n + 1 => agB S nd gv tk n && (!S n || (decide (nd &&& n = nd) && decide ((n &&& (4095 - tk)) ||| gv = n)))
theorem agB_iff (S : Nat → Bool) (nd gv tk : Nat) : ∀ n, agB S nd gv tk n = true ↔ ∀ w, w < n → S w = true → nd &&& w = nd ∧ (w &&& (4095 - tk)) ||| gv = w
  | 0 => by simp [agB]
  | n + 1 => by
    rw [agB, Bool.and_eq_true, agB_iff S nd gv tk n]
    constructor
    · intro ⟨h1, h2⟩ w hw q
      by_cases e : w = n
      · subst e; rw [q] at h2; simpa using h2
      · exact h1 w (by omega) q
    · intro hh
      refine ⟨fun w hw => hh w (by omega), ?_⟩
      cases q : S n with
      | false => rfl
      | true => obtain ⟨y1, y2⟩ := hh n (by omega) q; rw [decide_eq_true y1, decide_eq_true y2]; rfl
theorem again_M (hl : Lay h) (z : ZR h 235 S) {s nd gv tk : Nat} (hs : s < 8) (hn' : nd < 4096) (hg : gv < 4096) (ht : tk < 4096) (e6 : hI h 206 s = nI nd) (e7 : hI h 207 s = nI gv) (e8 : hI h 208 s = nI tk) {ρ : Type} (k : Int32 → Option ρ) : f_M_again_L29 h 201 (nI s) k FU 1 0 = k (bI (agB S nd gv tk 4096)) := by
  have main : ∀ d i n, i + d = 4096 → d < n → f_M_again_L29 h 201 (nI s) k n (bI (agB S nd gv tk i)) (nI i) = k (bI (agB S nd gv tk 4096)) := by
    intro d
    induction d with
    | zero =>
      intro i n h1 h2
      obtain ⟨n, rfl⟩ : ∃ q, n = q + 1 := ⟨n - 1, by omega⟩
      have : i = 4096 := by omega
      subst this
      simp only [f_M_again_L29, show ¬ nI 4096 < 4096 by decide, if_false]
    | succ d ih =>
      intro i n h1 h2
      obtain ⟨n, rfl⟩ : ∃ q, n = q + 1 := ⟨n - 1, by omega⟩
      have q : i < 4096 := by omega
      have qi : nI i < 4096 := nI_lt (b := 4096) q (by decide)
      have ed : f_M_did h 201 (nI i) (nI s) = some (nI ((i &&& (4095 - tk)) ||| gv)) := by
        simp only [f_M_did, gR_n (kk201 hl), LR hl, Option.bind_some, rI_n (kk208 hl) hs (by decide), rI_n (kk207 hl) hs (by decide), e7, e8]
        rw [did_nI q ht]
      have dl := did_lt (tk := tk) q hg
      have de : (nI ((i &&& (4095 - tk)) ||| gv) = nI i) ↔ (i &&& (4095 - tk)) ||| gv = i := nI_eq (by omega) (by omega)
      have nn := need_nI hn' q
      simp only [f_M_again_L29, qi, if_true, gR_n (kk201 hl), LR hl, Option.bind_some, rI_n (kk235 hl) q (by decide), z i q, rI_n (kk206 hl) hs (by decide), e6, cv_n (kk201 hl), ed, nI_1, bI0]
      rw [← ih (i + 1) n (by omega) (by omega), agB]
      cases agB S nd gv tk i with
      | false => simp [bI]
      | true =>
        cases S i with
        | false => simp [bI]
        | true =>
          rw [if_neg (by decide), if_neg (by decide)]
          by_cases y1 : nd &&& i = nd
          · rw [if_pos (nn.mpr y1)]
            by_cases y2 : (i &&& (4095 - tk)) ||| gv = i
            · rw [if_pos (de.mpr y2)]; simp [y1, y2, bI]
            · rw [if_neg (fun w => y2 (de.mp w))]; simp [y1, y2, bI]
          · rw [if_neg (fun w => y1 (nn.mp w))]; simp [y1, bI]
  exact main 4096 0 FU rfl (by unfold FU; omega)
theorem again_eq {S : Nat → Bool} {nd gv tk : Nat} (hn' : nd < 4096) (hg : gv < 4096) (ht : tk < 4096) : (agB S nd gv tk 4096 = true) ↔ ((nd ||| gv) &&& (4095 - msk (fun b => alB S b 4096) 12) = 0 ∧ (tk &&& (4095 - gv)) &&& msk (fun b => smB S b 4096) 12 = 0) := by
  obtain ⟨A, eA⟩ : ∃ A : Nat → Bool, A = fun b => alB S b 4096 := ⟨_, rfl⟩
  obtain ⟨B, eB⟩ : ∃ B : Nat → Bool, B = fun b => smB S b 4096 := ⟨_, rfl⟩
  have iA : ∀ b, A b = true ↔ ∀ w, w < 4096 → S w = true → w.testBit b = true := fun b => by rw [eA]; exact alB_iff S b 4096
  have iB : ∀ b, B b = true ↔ ∃ w, w < 4096 ∧ S w = true ∧ w.testBit b = true := fun b => by rw [eB]; exact smB_iff S b 4096
  rw [← eA, ← eB, agB_iff]
  have z1 : ((nd ||| gv) &&& (4095 - msk A 12) = 0) ↔ ∀ b, b < 12 → (nd.testBit b || gv.testBit b) = true → A b = true := by
    constructor
    · intro e b hb q
      have := congrArg (fun x => x.testBit b) e
      simp only [Nat.testBit_and, Nat.testBit_or, q, cmp12 (mk_lt A), decide_eq_true hb, Bool.true_and, Nat.zero_testBit, msk_bit] at this
      simpa using this
    · intro hh
      refine bits12 (Nat.lt_of_le_of_lt Nat.and_le_left (Nat.or_lt_two_pow (n := 12) hn' hg)) (by decide) (fun b hb => ?_)
      rw [Nat.testBit_and, Nat.testBit_or, cmp12 (mk_lt A), decide_eq_true hb, Nat.zero_testBit, msk_bit, decide_eq_true hb]
      cases q : (nd.testBit b || gv.testBit b) with
      | false => rfl
      | true => rw [hh b hb q]; rfl
  have z2 : ((tk &&& (4095 - gv)) &&& msk B 12 = 0) ↔ ∀ b, b < 12 → (tk.testBit b && !gv.testBit b) = true → B b = false := by
    constructor
    · intro e b hb q
      have := congrArg (fun x => x.testBit b) e
      simp only [Nat.testBit_and, cmp12 hg, decide_eq_true hb, Bool.true_and, q, Nat.zero_testBit, msk_bit] at this
      exact this
    · intro hh
      refine bits12 (Nat.lt_of_le_of_lt Nat.and_le_left (Nat.lt_of_le_of_lt Nat.and_le_left ht)) (by decide) (fun b hb => ?_)
      rw [Nat.testBit_and, Nat.testBit_and, cmp12 hg, decide_eq_true hb, Bool.true_and, Nat.zero_testBit, msk_bit, decide_eq_true hb, Bool.true_and]
      cases q : (tk.testBit b && !gv.testBit b) with
      | false => rfl
      | true => rw [hh b hb q]; rfl
  rw [z1, z2]
  constructor
  · intro hh
    refine ⟨fun b hb q => (iA b).mpr (fun w hw s => ?_), fun b hb q => ?_⟩
    · obtain ⟨y1, y2⟩ := hh w hw s
      have t1 := congrArg (fun x => x.testBit b) y1
      have t2 := congrArg (fun x => x.testBit b) y2
      simp only [Nat.testBit_and] at t1
      rw [did_bit ht hb] at t2
      revert t1 t2 q
      cases nd.testBit b <;> cases gv.testBit b <;> cases w.testBit b <;> cases tk.testBit b <;> decide
    · cases z : B b with
      | false => rfl
      | true =>
        obtain ⟨w, w1, w2, w3⟩ := (iB b).mp z
        obtain ⟨y1, y2⟩ := hh w w1 w2
        have t2 := congrArg (fun x => x.testBit b) y2
        rw [did_bit ht hb, w3] at t2
        revert t2 q
        cases gv.testBit b <;> cases tk.testBit b <;> decide
  · intro ⟨h1, h2⟩ w hw s
    have i1 : ∀ b, b < 12 → (nd.testBit b || gv.testBit b) = true → w.testBit b = true := fun b hb q => (iA b).mp (h1 b hb q) w hw s
    have i2 : ∀ b, b < 12 → (tk.testBit b && !gv.testBit b) = true → w.testBit b = false := by
      intro b hb q
      cases z : w.testBit b with
      | false => rfl
      | true => have := (iB b).mpr ⟨w, hw, s, z⟩; rw [h2 b hb q] at this; cases this
    refine ⟨bits12 (Nat.lt_of_le_of_lt Nat.and_le_left hn') hn' (fun b hb => ?_), bits12 (did_lt hw hg) hw (fun b hb => ?_)⟩
    · have := i1 b hb
      rw [Nat.testBit_and]
      revert this
      cases nd.testBit b <;> cases gv.testBit b <;> cases w.testBit b <;> decide
    · have t1 := i1 b hb
      have t2 := i2 b hb
      rw [did_bit ht hb]
      revert t1 t2
      cases nd.testBit b <;> cases gv.testBit b <;> cases w.testBit b <;> cases tk.testBit b <;> decide
theorem bI_if (b : Bool) (g : AH) : (if bI b = (0 : Int32) then some ((0 : Int32), g) else some ((1 : Int32), g)) = some (bI b, g) := by cases b <;> rfl
theorem o_again (hl : Lay h) (rh : RHelp h hn ha) (rl : RLog h hn ev) (x : Int32) : ∃ r h2, f_C_again h 4 x = some r ∧ f_M_again h 201 x = some (r, h2) ∧ Dfr SWd h h2 := by
  have h30 := rl.1
  have h8 := rh.1
  by_cases hx : ∃ s, s < hn ∧ x = nI s
  · obtain ⟨s, hs, rfl⟩ := hx
    obtain ⟨tC, tM⟩ := (helpC hl rh).1 s hs
    obtain ⟨⟨r, g⟩, e, q, f, z⟩ := passAll_M hl rh rl (Nat.le_refl ev)
    dsimp only at q f z
    subst q
    have lg := f.lay hl
    have wo := hl.wo (show ev < 31 by omega)
    have wr := rl.wr (Nat.le_refl ev)
    by_cases c0 : nI (cnS (wld h ev) 4096) = 0
    · refine ⟨-103, g, ?_, ?_, f⟩
      · simp only [f_C_again, gR_n (kk4 hl), LR hl, cv_n (c := 8) (kk107 hl), tC, Option.bind_some, onl, cv_n (c := 6) (kk135 hl), last_C hl rl, cv_n (c := 11) wo.1, size_C wo wr, c0, if_true]
      · simp only [f_M_again, cv_n (kk201 hl), tM, gI_n (kk201 hl), rl.2.2.1, Option.bind_some, show ¬ ((1 : Int32) = 0) by decide, if_false, e, bd2_v, c0, if_true]
    · obtain ⟨nd, gv, tk, a1, a2, a3, b1, b2, b3, t⟩ := (rh.2.2.2 s hs).2.th
      have b5 : rI 1 h (ha s + 1) (5 : Int32) = some (nI nd) := by
        have := rI_n (j := 5) t.2.2.1 (by decide) (by decide)
        rw [t.2.2.2.2.1] at this; exact this
      have b6 : rI 1 h (ha s + 1) (6 : Int32) = some (nI gv) := by
        have := rI_n (j := 6) t.2.2.1 (by decide) (by decide)
        rw [t.2.2.2.2.2.1] at this; exact this
      have b7 : rI 1 h (ha s + 1) (7 : Int32) = some (nI tk) := by
        have := rI_n (j := 7) t.2.2.1 (by decide) (by decide)
        rw [t.2.2.2.2.2.2] at this; exact this
      have c1 : ((nI nd ||| nI gv) &&& (mk12 (fun b => alB (wld h ev) b 4096) ^^^ (-1 : Int32)) = 0) ↔ (nd ||| gv) &&& (4095 - msk (fun b => alB (wld h ev) b 4096) 12) = 0 := by
        unfold mk12
        have l1 : nd ||| gv < 4096 := Nat.or_lt_two_pow (n := 12) a1 a2
        rw [nI_or, cut_nI l1 (mk_lt _), show (0 : Int32) = nI 0 from rfl, nI_eq (Nat.lt_of_le_of_lt Nat.and_le_left (by omega)) (by decide)]
      have c2 : ((nI tk &&& (nI gv ^^^ (-1 : Int32))) &&& mk12 (fun b => smB (wld h ev) b 4096) = 0) ↔ (tk &&& (4095 - gv)) &&& msk (fun b => smB (wld h ev) b 4096) 12 = 0 := by
        unfold mk12
        rw [cut_nI a3 a2, nI_and, show (0 : Int32) = nI 0 from rfl, nI_eq (Nat.lt_of_le_of_lt Nat.and_le_left (Nat.lt_of_le_of_lt Nat.and_le_left (by omega))) (by decide)]
      have ae := again_eq (S := wld h ev) a1 a2 a3
      rw [← c1, ← c2] at ae
      refine ⟨bI (agB (wld h ev) nd gv tk 4096), g, ?_, ?_, f⟩
      · simp only [f_C_again, gR_n (kk4 hl), LR hl, cv_n (c := 8) (kk107 hl), tC, Option.bind_some, onl, cv_n (c := 6) (kk135 hl), last_C hl rl, cv_n (c := 11) wo.1, size_C wo wr, c0, if_false, gR_n (c := 4) t.2.1, t.2.2.2.1, b5, b6, b7, all_C hl wo wr, some_C hl wo wr]
        cases y : agB (wld h ev) nd gv tk 4096 with
        | true =>
          obtain ⟨y1, y2⟩ := ae.mp y
          rw [if_pos y1, if_pos y2]; rfl
        | false =>
          by_cases y1 : (nI nd ||| nI gv) &&& (mk12 (fun b => alB (wld h ev) b 4096) ^^^ (-1 : Int32)) = 0
          · rw [if_pos y1]
            by_cases y2 : (nI tk &&& (nI gv ^^^ (-1 : Int32))) &&& mk12 (fun b => smB (wld h ev) b 4096) = 0
            · rw [ae.mpr ⟨y1, y2⟩] at y; cases y
            · rw [if_neg y2]; rfl
          · rw [if_neg y1]; rfl
      · have i6 : hI g 206 s = nI nd := by rw [f.I (by unfold SWd; omega)]; exact b1
        have i7 : hI g 207 s = nI gv := by rw [f.I (by unfold SWd; omega)]; exact b2
        have i8 : hI g 208 s = nI tk := by rw [f.I (by unfold SWd; omega)]; exact b3
        have L := again_M lg z (show s < 8 by omega) a1 a2 a3 i6 i7 i8 (fun x13 => if x13 = (0 : Int32) then some ((0 : Int32), g) else some ((1 : Int32), g))
        simp only [f_M_again, cv_n (kk201 hl), tM, gI_n (kk201 hl), rl.2.2.1, Option.bind_some, show ¬ ((1 : Int32) = 0) by decide, if_false, e, bd2_v, c0]
        rw [L]
        exact bI_if _ g
  · obtain ⟨e1, e2⟩ := (helpC hl rh).2 x hx
    refine ⟨-101, h, ?_, ?_, Dfr.refl⟩
    · simp only [f_C_again, gR_n (kk4 hl), LR hl, cv_n (c := 8) (kk107 hl), e1, Option.bind_some, onl]
    · simp only [f_M_again, cv_n (kk201 hl), e2, Option.bind_some, if_true]
end AG
