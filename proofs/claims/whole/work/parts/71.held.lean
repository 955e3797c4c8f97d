/-! WHAT THE WORLDS SAY -/
section QS
variable {h g : AH} {o c hn ev : Nat} {S : Nat → Bool} {ha : Nat → Nat}
theorem size_C (w : WO h o c) (wr : WR h c S) : f_Wo_size h o = some (nI (cnS S 4096)) := by
  have main : ∀ d i n, i + d = 64 → d < n → f_Wo_size_L4 h o n (nI (cnS S (64 * i))) (nI i) = some (nI (cnS S 4096)) := by
    intro d
    induction d with
    | zero =>
      intro i n h1 h2
      obtain ⟨n, rfl⟩ : ∃ q, n = q + 1 := ⟨n - 1, by omega⟩
      have : i = 64 := by omega
      subst this
      simp only [f_Wo_size_L4, show ¬ nI 64 < 64 by decide, if_false]
    | succ d ih =>
      intro i n h1 h2
      obtain ⟨n, rfl⟩ : ∃ q, n = q + 1 := ⟨n - 1, by omega⟩
      have q : i < 64 := by omega
      have qi : nI i < 64 := nI_lt (b := 64) q (by decide)
      have e : cnS (fun j => (hJ h c i).toBitVec.getLsbD j) 64 = cnS (fun j => S (64 * i + j)) 64 := cnS_cong 64 (fun j hj => wr i q j hj)
      simp only [f_Wo_size_L4, qi, if_true, gR_n (c := 11) w.1, w.2.2.1, Option.bind_some, rJ_n w.2.1 q (by decide), pop64, e, nI_add, nI_1, ← cnS_add]
      exact ih (i + 1) n (by omega) (by omega)
  exact main 64 0 FU rfl (by unfold FU; omega)
/-- masks of facts -/
def mk12 (p : Nat → Bool) : Int32 := nI (msk p 12)
theorem mk_lt (p : Nat → Bool) : msk p 12 < 4096 := msk_lt p 12
theorem mk_cong {p q : Nat → Bool} (e : ∀ b, b < 12 → p b = q b) : mk12 p = mk12 q := by
  unfold mk12
  congr 1
  exact bits12 (mk_lt p) (mk_lt q) (fun b hb => by rw [msk_bit, msk_bit, e b hb])
theorem mk_eq {p : Nat → Bool} {n : Nat} (hn : n < 4096) (e : ∀ b, b < 12 → n.testBit b = p b) : nI n = mk12 p := by
  unfold mk12
  congr 1
  exact bits12 hn (mk_lt p) (fun b hb => by rw [msk_bit, e b hb, decide_eq_true hb, Bool.true_and])
theorem mk_and {p : Nat → Bool} {n : Nat} : mk12 p &&& nI n = mk12 (fun b => p b && n.testBit b) := by
  unfold mk12
  rw [nI_and]
  congr 1
  refine bits12 (Nat.lt_of_le_of_lt Nat.and_le_left (mk_lt p)) (mk_lt _) (fun b hb => ?_)
  rw [Nat.testBit_and, msk_bit, msk_bit, decide_eq_true hb, Bool.true_and, Bool.true_and]
theorem mk_or {p : Nat → Bool} {n : Nat} (hn : n < 4096) : mk12 p ||| nI n = mk12 (fun b => p b || n.testBit b) := by
  unfold mk12
  rw [nI_or]
  congr 1
  refine bits12 (Nat.or_lt_two_pow (n := 12) (mk_lt p) hn) (mk_lt _) (fun b hb => ?_)
  rw [Nat.testBit_or, msk_bit, msk_bit, decide_eq_true hb, Bool.true_and, Bool.true_and]
theorem mk_cut {p : Nat → Bool} {n : Nat} (hn : n < 4096) : mk12 p &&& (nI n ^^^ (-1 : Int32)) = mk12 (fun b => p b && !n.testBit b) := by
  unfold mk12
  rw [cut_nI (mk_lt p) hn]
  congr 1
  refine bits12 (Nat.lt_of_le_of_lt Nat.and_le_left (mk_lt p)) (mk_lt _) (fun b hb => ?_)
  rw [Nat.testBit_and, cmp12 hn, msk_bit, msk_bit, decide_eq_true hb, Bool.true_and, Bool.true_and, Bool.true_and]
theorem b4095 {b : Nat} (hb : b < 12) : (4095 : Nat).testBit b = true := by
  have : ∀ b, b < 12 → (4095 : Nat).testBit b = true := by decide
  exact this b hb
def alB (S : Nat → Bool) (f : Nat) : Nat → Bool
  | 0 => true
  | n + 1 => alB S f n && (!S n || n.testBit f)
def smB (S : Nat → Bool) (f : Nat) : Nat → Bool
  | 0 => false
  | n + 1 => smB S f n || (S n && n.testBit f)
theorem alB_iff (S : Nat → Bool) (f : Nat) : ∀ n, alB S f n = true ↔ ∀ w, w < n → S w = true → w.testBit f = true
  | 0 => by simp [alB]
  | n + 1 => by
    rw [alB, Bool.and_eq_true, alB_iff S f n]
    constructor
    · intro ⟨h1, h2⟩ w hw q
      by_cases e : w = n
      · subst e; rw [q] at h2; simpa using h2
      · exact h1 w (by omega) q
    · intro hh
      refine ⟨fun w hw => hh w (by omega), ?_⟩
      cases q : S n with
      | false => rfl
      | true => rw [hh n (by omega) q]; rfl
theorem smB_iff (S : Nat → Bool) (f : Nat) : ∀ n, smB S f n = true ↔ ∃ w, w < n ∧ S w = true ∧ w.testBit f = true
  | 0 => by simp [smB]
  | n + 1 => by
    rw [smB, Bool.or_eq_true, smB_iff S f n, Bool.and_eq_true]
    constructor
    · rintro (⟨w, w1, w2⟩ | w2)
      · exact ⟨w, by omega, w2⟩
      · exact ⟨n, by omega, w2⟩
    · rintro ⟨w, w1, w2⟩
      by_cases e : w = n
      · subst e; exact Or.inr w2
      · exact Or.inl ⟨w, by omega, w2⟩
theorem J0 (x : Int64) : (lg_cmp x 0 = 0) ↔ ∀ j, j < 64 → x.toBitVec.getLsbD j = false := by
  have e : (lg_cmp x 0 = 0) ↔ x = 0 := by
    unfold lg_cmp
    constructor
    · intro q
      revert q
      split
      · intro q; exact absurd q (by decide)
      · split
        · rename_i a b
          intro _
          exact b
        · intro q; exact absurd q (by decide)
    · intro q; subst q; decide
  rw [e]
  constructor
  · intro q j _; subst q; show (0#64).getLsbD j = false; simp
  · intro q
    apply Int64.toBitVec_inj.mp
    apply BitVec.eq_of_getLsbD_eq
    intro j hj
    rw [q j hj]
    show false = (0#64).getLsbD j
    simp
theorem all_C (hl : Lay h) (w : WO h o c) (wr : WR h c S) : f_Wo_heldInAll h o = some (mk12 (fun b => alB S b 4096)) := by
  have inner : ∀ (f : Nat) (hf : f < 12) (p : Nat → Bool) (k : Int32 → Option Int32) d i n, i + d = 64 → d < n → f_Wo_heldInAll_L14 h o (nI f) k n (mk12 (fun b => p b && (!decide (b = f) || alB S f (64 * i)))) (nI i) = k (mk12 (fun b => p b && (!decide (b = f) || alB S f 4096))) := by
    intro f hf p k d
    induction d with
    | zero =>
      intro i n h1 h2
      obtain ⟨n, rfl⟩ : ∃ q, n = q + 1 := ⟨n - 1, by omega⟩
      have : i = 64 := by omega
      subst this
      simp only [f_Wo_heldInAll_L14, show ¬ nI 64 < 64 by decide, if_false]
    | succ d ih =>
      intro i n h1 h2
      obtain ⟨n, rfl⟩ : ∃ q, n = q + 1 := ⟨n - 1, by omega⟩
      have q : i < 64 := by omega
      have qi : nI i < 64 := nI_lt (b := 64) q (by decide)
      have ew : (lg_cmp (hJ h c i &&& (hold i f ^^^ (-1 : Int64))) 0 = 0) ↔ ∀ j, j < 64 → S (64 * i + j) = true → (64 * i + j).testBit f = true := by
        rw [J0]
        constructor
        · intro y j hj s
          have := y j hj
          rw [Int64.toBitVec_and, BitVec.getLsbD_and, Int64.toBitVec_xor, BitVec.getLsbD_xor, hold_bit hj, m1_bit j hj, wr i q j hj, s] at this
          revert this
          cases (64 * i + j).testBit f <;> decide
        · intro y j hj
          rw [Int64.toBitVec_and, BitVec.getLsbD_and, Int64.toBitVec_xor, BitVec.getLsbD_xor, hold_bit hj, m1_bit j hj, wr i q j hj]
          cases s : S (64 * i + j) with
          | false => rfl
          | true => rw [y j hj s]; rfl
      have step : alB S f (64 * (i + 1)) = (alB S f (64 * i) && decide (lg_cmp (hJ h c i &&& (hold i f ^^^ (-1 : Int64))) 0 = 0)) := by
        apply Bool.eq_iff_iff.mpr
        rw [alB_iff, Bool.and_eq_true, alB_iff, decide_eq_true_eq, ew]
        constructor
        · intro y; exact ⟨fun w hw => y w (by omega), fun j hj => y (64 * i + j) (by omega)⟩
        · intro ⟨y1, y2⟩ v hv s
          by_cases z : v < 64 * i
          · exact y1 v z s
          · have := y2 (v - 64 * i) (by omega)
            rw [show 64 * i + (v - 64 * i) = v by omega] at this
            exact this s
      simp only [f_Wo_heldInAll_L14, qi, if_true, gR_n (c := 11) w.1, w.2.2.1, Option.bind_some, rJ_n w.2.1 q (by decide), holders_C hl q hf, nI_1]
      rw [← ih (i + 1) n (by omega) (by omega)]
      have ev : (mk12 (fun b => p b && (!decide (b = f) || alB S f (64 * (i + 1))))) = (mk12 (fun b => p b && (!decide (b = f) || alB S f (64 * i)))) &&& (if lg_cmp (hJ h c i &&& (hold i f ^^^ (-1 : Int64))) 0 = 0 then 4095 else ((1 : Int32) <<< (nI f &&& 31)) ^^^ (-1 : Int32)) := by
        by_cases y : lg_cmp (hJ h c i &&& (hold i f ^^^ (-1 : Int64))) 0 = 0
        · rw [if_pos y, step, decide_eq_true y, show (4095 : Int32) = nI 4095 from rfl, mk_and]
          exact mk_cong (fun b hb => by rw [b4095 hb]; simp)
        · rw [if_neg y, step, decide_eq_false y, shl1 (by omega), mk_cut (Nat.pow_lt_pow_right (n := 12) (by decide) hf)]
          refine mk_cong (fun b hb => ?_)
          rw [Nat.testBit_two_pow]
          by_cases e : b = f
          · subst e; simp
          · simp [e, show ¬ f = b from fun z => e z.symm]
      rw [ev]
      by_cases y : lg_cmp (hJ h c i &&& (hold i f ^^^ (-1 : Int64))) 0 = 0
      · simp only [if_pos y, Option.bind_some]
      · simp only [if_neg y, Option.bind_some]
  have outer : ∀ d f n, f + d = 12 → d < n → f_Wo_heldInAll_L6 h o n (mk12 (fun b => !decide (b < f) || alB S b 4096)) (nI f) = some (mk12 (fun b => alB S b 4096)) := by
    intro d
    induction d with
    | zero =>
      intro f n h1 h2
      obtain ⟨n, rfl⟩ : ∃ q, n = q + 1 := ⟨n - 1, by omega⟩
      have : f = 12 := by omega
      subst this
      simp only [f_Wo_heldInAll_L6, show ¬ nI 12 < 12 by decide, if_false]
      exact congrArg some (mk_cong (fun b hb => by simp [hb]))
    | succ d ih =>
      intro f n h1 h2
      obtain ⟨n, rfl⟩ : ∃ q, n = q + 1 := ⟨n - 1, by omega⟩
      have q : f < 12 := by omega
      have qi : nI f < 12 := nI_lt (b := 12) q (by decide)
      simp only [f_Wo_heldInAll_L6, qi, if_true, nI_1]
      have := inner f q (fun b => !decide (b < f) || alB S b 4096) (fun x7 => f_Wo_heldInAll_L6 h o n x7 (nI (f + 1))) 64 0 FU rfl (by unfold FU; omega)
      rw [show mk12 (fun b => !decide (b < f) || alB S b 4096) = mk12 (fun b => (!decide (b < f) || alB S b 4096) && (!decide (b = f) || alB S f (64 * 0))) from mk_cong (fun b hb => by rw [show alB S f (64 * 0) = true from rfl]; simp)]
      have ee : mk12 (fun b => (!decide (b < f) || alB S b 4096) && (!decide (b = f) || alB S f 4096)) = mk12 (fun b => !decide (b < f + 1) || alB S b 4096) := by
        obtain ⟨A, eA⟩ : ∃ A : Nat → Bool, A = fun b => alB S b 4096 := ⟨_, rfl⟩
        have e1 : ∀ b, alB S b 4096 = A b := fun b => by rw [eA]
        simp only [e1]
        refine mk_cong (fun b hb => ?_)
        by_cases e : b = f
        · subst e; simp
        · by_cases z : b < f
          · simp [e, z, show b < f + 1 by omega]
          · simp [e, z, show ¬ b < f + 1 by omega]
      rw [nI_0] at this
      rw [this, ee]
      exact ih (f + 1) n (by omega) (by omega)
  have := outer 12 0 FU rfl (by unfold FU; omega)
  unfold f_Wo_heldInAll
  rw [show (4095 : Int32) = mk12 (fun b => !decide (b < 0) || alB S b 4096) from mk_eq (n := 4095) (by decide) (fun b hb => by rw [b4095 hb]; simp)]
  exact this
theorem some_C (hl : Lay h) (w : WO h o c) (wr : WR h c S) : f_Wo_heldInSome h o = some (mk12 (fun b => smB S b 4096)) := by
  have inner : ∀ (f : Nat) (hf : f < 12) (p : Nat → Bool) (k : Int32 → Option Int32) d i n, i + d = 64 → d < n → f_Wo_heldInSome_L12 h o (nI f) k n (mk12 (fun b => p b || (decide (b = f) && smB S f (64 * i)))) (nI i) = k (mk12 (fun b => p b || (decide (b = f) && smB S f 4096))) := by
    intro f hf p k d
    induction d with
    | zero =>
      intro i n h1 h2
      obtain ⟨n, rfl⟩ : ∃ q, n = q + 1 := ⟨n - 1, by omega⟩
      have : i = 64 := by omega
      subst this
      simp only [f_Wo_heldInSome_L12, show ¬ nI 64 < 64 by decide, if_false]
    | succ d ih =>
      intro i n h1 h2
      obtain ⟨n, rfl⟩ : ∃ q, n = q + 1 := ⟨n - 1, by omega⟩
      have q : i < 64 := by omega
      have qi : nI i < 64 := nI_lt (b := 64) q (by decide)
      have ew : (lg_cmp (hJ h c i &&& hold i f) 0 = 0) ↔ ∀ j, j < 64 → S (64 * i + j) = true → (64 * i + j).testBit f = false := by
        rw [J0]
        constructor
        · intro y j hj s
          have := y j hj
          rw [Int64.toBitVec_and, BitVec.getLsbD_and, hold_bit hj, wr i q j hj, s] at this
          exact this
        · intro y j hj
          rw [Int64.toBitVec_and, BitVec.getLsbD_and, hold_bit hj, wr i q j hj]
          cases s : S (64 * i + j) with
          | false => rfl
          | true => rw [y j hj s]; rfl
      have step : smB S f (64 * (i + 1)) = (smB S f (64 * i) || !decide (lg_cmp (hJ h c i &&& hold i f) 0 = 0)) := by
        by_cases y' : lg_cmp (hJ h c i &&& hold i f) 0 = 0
        · rw [decide_eq_true y']
          have y := ew.mp y'
          apply Bool.eq_iff_iff.mpr
          rw [smB_iff, Bool.or_eq_true, smB_iff]
          constructor
          · rintro ⟨v, v1, v2, v3⟩
            by_cases z : v < 64 * i
            · exact Or.inl ⟨v, z, v2, v3⟩
            · have := y (v - 64 * i) (by omega)
              rw [show 64 * i + (v - 64 * i) = v by omega] at this
              rw [this v2] at v3; cases v3
          · rintro (⟨v, v1, v2, v3⟩ | z)
            · exact ⟨v, by omega, v2, v3⟩
            · cases z
        · rw [decide_eq_false y']
          have y : ¬ ∀ j, j < 64 → S (64 * i + j) = true → (64 * i + j).testBit f = false := fun z => y' (ew.mpr z)
          have : smB S f (64 * (i + 1)) = true := by
            rw [smB_iff]
            apply Classical.byContradiction
            intro nn
            apply y
            intro j hj s
            cases z : (64 * i + j).testBit f with
            | false => rfl
            | true => exact absurd ⟨64 * i + j, by omega, s, z⟩ nn
          rw [this]; simp
      simp only [f_Wo_heldInSome_L12, qi, if_true, gR_n (c := 11) w.1, w.2.2.1, Option.bind_some, rJ_n w.2.1 q (by decide), holders_C hl q hf, nI_1]
      rw [← ih (i + 1) n (by omega) (by omega)]
      have ev : (mk12 (fun b => p b || (decide (b = f) && smB S f (64 * (i + 1))))) = (mk12 (fun b => p b || (decide (b = f) && smB S f (64 * i)))) ||| (if lg_cmp (hJ h c i &&& hold i f) 0 = 0 then 0 else ((1 : Int32) <<< (nI f &&& 31))) := by
        by_cases y : lg_cmp (hJ h c i &&& hold i f) 0 = 0
        · rw [if_pos y, step, decide_eq_true y, show (0 : Int32) = nI 0 from rfl, mk_or (by decide)]
          exact mk_cong (fun b hb => by simp)
        · rw [if_neg y, step, decide_eq_false y, shl1 (by omega), mk_or (Nat.pow_lt_pow_right (n := 12) (by decide) hf)]
          refine mk_cong (fun b hb => ?_)
          rw [Nat.testBit_two_pow]
          by_cases e : b = f
          · subst e; simp
          · simp [e, show ¬ f = b from fun z => e z.symm]
      rw [ev]
      by_cases y : lg_cmp (hJ h c i &&& hold i f) 0 = 0
      · simp only [if_pos y, Option.bind_some]
      · simp only [if_neg y, Option.bind_some]
  have outer : ∀ d f n, f + d = 12 → d < n → f_Wo_heldInSome_L4 h o n (mk12 (fun b => decide (b < f) && smB S b 4096)) (nI f) = some (mk12 (fun b => smB S b 4096)) := by
    intro d
    induction d with
    | zero =>
      intro f n h1 h2
      obtain ⟨n, rfl⟩ : ∃ q, n = q + 1 := ⟨n - 1, by omega⟩
      have : f = 12 := by omega
      subst this
      simp only [f_Wo_heldInSome_L4, show ¬ nI 12 < 12 by decide, if_false]
      exact congrArg some (mk_cong (fun b hb => by simp [hb]))
    | succ d ih =>
      intro f n h1 h2
      obtain ⟨n, rfl⟩ : ∃ q, n = q + 1 := ⟨n - 1, by omega⟩
      have q : f < 12 := by omega
      have qi : nI f < 12 := nI_lt (b := 12) q (by decide)
      simp only [f_Wo_heldInSome_L4, qi, if_true, nI_1]
      have := inner f q (fun b => decide (b < f) && smB S b 4096) (fun x7 => f_Wo_heldInSome_L4 h o n x7 (nI (f + 1))) 64 0 FU rfl (by unfold FU; omega)
      rw [show mk12 (fun b => decide (b < f) && smB S b 4096) = mk12 (fun b => (decide (b < f) && smB S b 4096) || (decide (b = f) && smB S f (64 * 0))) from mk_cong (fun b hb => by rw [show smB S f (64 * 0) = false from rfl]; simp)]
      have ee : mk12 (fun b => (decide (b < f) && smB S b 4096) || (decide (b = f) && smB S f 4096)) = mk12 (fun b => decide (b < f + 1) && smB S b 4096) := by
        obtain ⟨A, eA⟩ : ∃ A : Nat → Bool, A = fun b => smB S b 4096 := ⟨_, rfl⟩
        have e1 : ∀ b, smB S b 4096 = A b := fun b => by rw [eA]
        simp only [e1]
        refine mk_cong (fun b hb => ?_)
        by_cases e : b = f
        · subst e; simp
        · by_cases z : b < f
          · simp [e, z, show b < f + 1 by omega]
          · simp [e, z, show ¬ b < f + 1 by omega]
      rw [nI_0] at this
      rw [this, ee]
      exact ih (f + 1) n (by omega) (by omega)
  have := outer 12 0 FU rfl (by unfold FU; omega)
  unfold f_Wo_heldInSome
  rw [show (0 : Int32) = mk12 (fun b => decide (b < 0) && smB S b 4096) from mk_eq (n := 0) (by decide) (fun b hb => by simp)]
  exact this
theorem held_M (hl : Lay h) (z : ZR h 235 S) (y1 : Int32) {ρ : Type} (k : Int32 → Int32 → Option ρ) : f_M_held_L35 h 201 y1 k FU 4095 0 0 = k (mk12 (fun b => alB S b 4096)) (mk12 (fun b => smB S b 4096)) := by
  have main : ∀ d i n, i + d = 4096 → d < n → f_M_held_L35 h 201 y1 k n (mk12 (fun b => alB S b i)) (mk12 (fun b => smB S b i)) (nI i) = k (mk12 (fun b => alB S b 4096)) (mk12 (fun b => smB S b 4096)) := by
    intro d
    induction d with
    | zero =>
      intro i n h1 h2
      obtain ⟨n, rfl⟩ : ∃ q, n = q + 1 := ⟨n - 1, by omega⟩
      have : i = 4096 := by omega
      subst this
      simp only [f_M_held_L35, show ¬ nI 4096 < 4096 by decide, if_false]
    | succ d ih =>
      intro i n h1 h2
      obtain ⟨n, rfl⟩ : ∃ q, n = q + 1 := ⟨n - 1, by omega⟩
      have q : i < 4096 := by omega
      have qi : nI i < 4096 := nI_lt (b := 4096) q (by decide)
      simp only [f_M_held_L35, qi, if_true, gR_n (kk201 hl), LR hl, Option.bind_some, rI_n (kk235 hl) q (by decide), z i q, nI_1]
      rw [← ih (i + 1) n (by omega) (by omega)]
      cases s : S i with
      | false =>
        simp only [bI, Bool.false_eq_true, if_false, if_true, Option.bind_some]
        congr 1
        · rw [show (4095 : Int32) = nI 4095 from rfl, mk_and]
          exact mk_cong (fun b hb => by rw [b4095 hb]; simp [alB, s])
        · rw [show (0 : Int32) = nI 0 from rfl, mk_or (by decide)]
          exact mk_cong (fun b hb => by simp [smB, s])
      | true =>
        simp only [bI, if_true, show ¬ ((1 : Int32) = 0) by decide, if_false, Option.bind_some]
        congr 1
        · rw [mk_and]
          exact mk_cong (fun b hb => by simp [alB, s])
        · rw [mk_or q]
          exact mk_cong (fun b hb => by simp [smB, s])
  have := main 4096 0 FU rfl (by unfold FU; omega)
  rw [show mk12 (fun b => alB S b 0) = 4095 from (mk_eq (n := 4095) (by decide) (fun b hb => by rw [b4095 hb]; rfl)).symm, show mk12 (fun b => smB S b 0) = 0 from (mk_eq (n := 0) (by decide) (fun b hb => by simp [smB])).symm] at this
  exact this
theorem last_C (hl : Lay h) (rl : RLog h hn ev) : f_Lo_last h 135 = some (some (139 + 2 * ev)) := by
  have h30 := rl.1
  simp only [f_Lo_last, gR_n (c := 6) (kk135 hl), gI_n (c := 6) (kk135 hl), LR hl, rl.2.1, Option.bind_some, rR_n (c := 11) (kk136 hl) (show ev < 31 by omega) (by decide), (hl.wrld (show ev < 31 by omega)).2.2.1]
theorem cn0 {S : Nat → Bool} (n : Nat) (hn : n < 2 ^ 31) : (nI (cnS S n) = 0) ↔ cnS S n = 0 := by
  rw [show (0 : Int32) = nI 0 from rfl, nI_eq (by have := cnS_le S n; omega) (by decide)]
theorem o_worlds (hl : Lay h) (rh : RHelp h hn ha) (rl : RLog h hn ev) (x : Int32) : ∃ r h2, f_C_worlds h 4 x = some r ∧ f_M_worlds h 201 x = some (r, h2) ∧ Dfr SWd h h2 := by
  have h30 := rl.1
  have iM : f_M_in h x (0 : Int32) (nI ev) = some (if x < 0 then 0 else if x < nI (ev + 1) then 1 else 0) := in_Mk h x (by omega)
  rcases ix_cases x (n := ev + 1) (by omega) with ⟨t, ht, rfl⟩ | h0 | ⟨h0, h1⟩
  · obtain ⟨⟨r, g⟩, e, q, f, z⟩ := passAll_M hl rh rl (show t ≤ ev by omega)
    dsimp only at q f z
    subst q
    refine ⟨nI (cnS (wld h t) 4096), g, ?_, ?_, f⟩
    · have wo := hl.wo (show t < 31 by omega)
      simp only [f_C_worlds, nI_n0 t (by omega), if_false, gR_n (kk4 hl), LR hl, gI_n (c := 6) (kk135 hl), rl.2.1, Option.bind_some, nI_nlt (show t ≤ ev by omega) (by omega), gR_n (c := 6) (kk135 hl), rR_n (c := 11) (kk136 hl) (show t < 31 by omega) (by decide), (hl.wrld (show t < 31 by omega)).2.2.1, cv_n (c := 11) wo.1, size_C wo (rl.wr (show t ≤ ev by omega))]
    · simp only [f_M_worlds, gI_n (kk201 hl), rl.2.2.1, iM, Option.bind_some, nI_n0 t (by omega), if_false, nI_lt ht (by omega), if_true, show ¬ ((1 : Int32) = 0) by decide, cv_n (kk201 hl), e, bd2]
  · refine ⟨-101, h, ?_, ?_, Dfr.refl⟩
    · simp only [f_C_worlds, h0, if_true]
    · simp only [f_M_worlds, gI_n (kk201 hl), rl.2.2.1, iM, Option.bind_some, h0, if_true]
  · have h1' : nI ev < x := (lt_nI (by omega) x).mpr h1
    refine ⟨-101, h, ?_, ?_, Dfr.refl⟩
    · simp only [f_C_worlds, h0, if_false, gR_n (kk4 hl), LR hl, gI_n (c := 6) (kk135 hl), rl.2.1, Option.bind_some, h1', if_true]
    · simp only [f_M_worlds, gI_n (kk201 hl), rl.2.2.1, iM, Option.bind_some, h0, h1, if_false, if_true]
theorem o_held (hl : Lay h) (rh : RHelp h hn ha) (rl : RLog h hn ev) (x : Int32) : ∃ r h2, f_C_held h 4 x = some r ∧ f_M_held h 201 x = some (r, h2) ∧ Dfr SWd h h2 := by
  have h30 := rl.1
  have iM : f_M_in h x (0 : Int32) (1 : Int32) = some (if x < 0 then 0 else if x < nI 2 then 1 else 0) := in_Mk h x (n := 1) (by decide)
  rcases ix_cases x (n := 2) (by decide) with ⟨t, ht, rfl⟩ | h0 | ⟨h0, h1⟩
  · obtain ⟨⟨r, g⟩, e, q, f, z⟩ := passAll_M hl rh rl (Nat.le_refl ev)
    dsimp only at q f z
    subst q
    have lg := f.lay hl
    have wo := hl.wo (show ev < 31 by omega)
    have wr := rl.wr (Nat.le_refl ev)
    have n1 : ¬ (1 : Int32) < nI t := nI_nlt (a := 1) (by omega) (by decide)
    by_cases c0 : nI (cnS (wld h ev) 4096) = 0
    · refine ⟨-103, g, ?_, ?_, f⟩
      · simp only [f_C_held, nI_n0 t (by omega), n1, if_false, gR_n (kk4 hl), LR hl, cv_n (c := 6) (kk135 hl), last_C hl rl, Option.bind_some, cv_n (c := 11) wo.1, size_C wo wr, c0, if_true]
      · simp only [f_M_held, gI_n (kk201 hl), rl.2.2.1, iM, Option.bind_some, nI_n0 t (by omega), if_false, nI_lt ht (by decide), if_true, show ¬ ((1 : Int32) = 0) by decide, cv_n (kk201 hl), e, bd2, c0]
    · refine ⟨if nI t = 0 then mk12 (fun b => alB (wld h ev) b 4096) else mk12 (fun b => smB (wld h ev) b 4096), g, ?_, ?_, f⟩
      · simp only [f_C_held, nI_n0 t (by omega), n1, if_false, gR_n (kk4 hl), LR hl, cv_n (c := 6) (kk135 hl), last_C hl rl, Option.bind_some, cv_n (c := 11) wo.1, size_C wo wr, c0, all_C hl wo wr, some_C hl wo wr]
        by_cases y : nI t = 0
        · rw [if_pos y, if_pos y]
        · rw [if_neg y, if_neg y]
      · simp only [f_M_held, gI_n (kk201 hl), rl.2.2.1, iM, Option.bind_some, nI_n0 t (by omega), if_false, nI_lt ht (by decide), if_true, show ¬ ((1 : Int32) = 0) by decide, cv_n (kk201 hl), e, bd2, c0, held_M lg z]
        by_cases y : nI t = 0
        · rw [if_pos y, if_pos y]
        · rw [if_neg y, if_neg y]
  · refine ⟨-102, h, ?_, ?_, Dfr.refl⟩
    · simp only [f_C_held, h0, if_true]
    · simp only [f_M_held, iM, Option.bind_some, h0, if_true]
  · have h1' : (1 : Int32) < x := (lt_nI (n := 1) (by decide) x).mpr h1
    refine ⟨-102, h, ?_, ?_, Dfr.refl⟩
    · simp only [f_C_held, h0, if_false, h1', if_true]
    · simp only [f_M_held, iM, Option.bind_some, h0, h1, if_false, if_true]
end QS
