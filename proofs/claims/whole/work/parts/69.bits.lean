/-! COUNTING BITS of a long -/
def cnS (S : Nat → Bool) : Nat → Nat
  | 0 => 0
  | n + 1 => cnS S n + (if S n = true then 1 else 0)
theorem cnS_cong {S S' : Nat → Bool} : ∀ n, (∀ i, i < n → S i = S' i) → cnS S n = cnS S' n
  | 0, _ => rfl
  | n + 1, e => by simp only [cnS]; rw [cnS_cong n (fun i hi => e i (by omega)), e n (by omega)]
theorem cnS_add (S : Nat → Bool) (m : Nat) : ∀ n, cnS S (m + n) = cnS S m + cnS (fun j => S (m + j)) n
  | 0 => by simp [cnS]
  | n + 1 => by
    show cnS S (m + n) + _ = cnS S m + (cnS (fun j => S (m + j)) n + _)
    rw [cnS_add S m n, Nat.add_assoc]
    rfl
theorem cnS_le (S : Nat → Bool) : ∀ n, cnS S n ≤ n
  | 0 => Nat.le_refl _
  | n + 1 => by have := cnS_le S n; simp only [cnS]; split <;> omega
theorem cnS_mono (S : Nat → Bool) {m n : Nat} (h : m ≤ n) : cnS S m ≤ cnS S n := by
  obtain ⟨d, rfl⟩ : ∃ d, n = m + d := ⟨n - m, by omega⟩
  rw [cnS_add]; omega
def bval : List Nat → Nat
  | [] => 0
  | b :: l => b + 256 * bval l
def brep (m : Nat) : Nat → Nat
  | 0 => 0
  | n + 1 => m + 256 * brep m n
def btl (X : Nat) : Nat → List Nat
  | 0 => []
  | n + 1 => X % 256 :: btl (X / 256) n
theorem bs_bit {a : Nat} (b : Nat) (ha : a < 256) (i : Nat) : (a + 256 * b).testBit i = if i < 8 then a.testBit i else b.testBit (i - 8) := by
  rw [Nat.add_comm]
  exact Nat.testBit_two_pow_mul_add (i := 8) b ha i
theorem bs_and {a m : Nat} (b m' : Nat) (ha : a < 256) (hm : m < 256) : (a + 256 * b) &&& (m + 256 * m') = (a &&& m) + 256 * (b &&& m') := by
  apply Nat.eq_of_testBit_eq
  intro i
  rw [Nat.testBit_and, bs_bit b ha, bs_bit m' hm, bs_bit _ (Nat.lt_of_le_of_lt Nat.and_le_left ha)]
  by_cases hi : i < 8
  · rw [if_pos hi, if_pos hi, if_pos hi, Nat.testBit_and]
  · rw [if_neg hi, if_neg hi, if_neg hi, Nat.testBit_and]
theorem btl_val : ∀ n X, X < 256 ^ n → bval (btl X n) = X
  | 0, X, h => by simp at h; simp [btl, bval, h]
  | n + 1, X, h => by
    have : X / 256 < 256 ^ n := by rw [Nat.pow_succ] at h; exact Nat.div_lt_of_lt_mul (by omega)
    simp only [btl, bval, btl_val n _ this]
    omega
theorem btl_lt : ∀ n X, ∀ b ∈ btl X n, b < 256
  | 0, X => by simp [btl]
  | n + 1, X => by
    intro b hb
    simp only [btl, List.mem_cons] at hb
    rcases hb with rfl | hb
    · exact Nat.mod_lt _ (by decide)
    · exact btl_lt n _ b hb
theorem btl_len : ∀ n X, (btl X n).length = n
  | 0, X => rfl
  | n + 1, X => by simp [btl, btl_len n]
theorem bv_le {m : Nat} : ∀ l : List Nat, (∀ b ∈ l, b ≤ m) → bval l ≤ brep m l.length
  | [], _ => Nat.le_refl _
  | b :: l, h => by
    have h1 := h b (by simp)
    have h2 := bv_le l (fun c hc => h c (by simp [hc]))
    simp only [bval, brep, List.length_cons]
    omega
theorem bv_and {m : Nat} (hm : m < 256) : ∀ l : List Nat, (∀ b ∈ l, b < 256) → bval l &&& brep m l.length = bval (l.map (fun b => b &&& m))
  | [], _ => by simp [bval, brep]
  | b :: l, h => by
    have h1 := h b (by simp)
    have h2 := bv_and hm l (fun c hc => h c (by simp [hc]))
    simp only [bval, brep, List.length_cons, List.map_cons]
    rw [bs_and _ _ h1 hm, h2]
theorem bv_h : ∀ l : List Nat, (∀ b ∈ l, b < 256) → bval l / 2 &&& brep 85 l.length = bval (l.map (fun b => b / 2 &&& 85))
  | [], _ => by simp [bval, brep]
  | b :: l, h => by
    have h1 := h b (by simp)
    have h2 := bv_h l (fun c hc => h c (by simp [hc]))
    simp only [bval, brep, List.length_cons, List.map_cons]
    have e : (b + 256 * bval l) / 2 = (b / 2 + 128 * (bval l % 2)) + 256 * (bval l / 2) := by omega
    have fin : ∀ x, x < 128 → ∀ p, p < 2 → (x + 128 * p) &&& 85 = x &&& 85 := by decide +kernel
    rw [e, bs_and _ _ (by omega) (by decide), h2, fin _ (by omega) _ (Nat.mod_lt _ (by decide))]
theorem bv_q : ∀ l : List Nat, (∀ b ∈ l, b < 256) → bval l / 4 &&& brep 51 l.length = bval (l.map (fun b => b / 4 &&& 51))
  | [], _ => by simp [bval, brep]
  | b :: l, h => by
    have h1 := h b (by simp)
    have h2 := bv_q l (fun c hc => h c (by simp [hc]))
    simp only [bval, brep, List.length_cons, List.map_cons]
    have e : (b + 256 * bval l) / 4 = (b / 4 + 64 * (bval l % 4)) + 256 * (bval l / 4) := by omega
    have fin : ∀ x, x < 64 → ∀ p, p < 4 → (x + 64 * p) &&& 51 = x &&& 51 := by decide +kernel
    rw [e, bs_and _ _ (by omega) (by decide), h2, fin _ (by omega) _ (Nat.mod_lt _ (by decide))]
theorem bv_sub (f : Nat → Nat) : ∀ l : List Nat, (∀ b ∈ l, f b ≤ b) → bval l = bval (l.map f) + bval (l.map (fun b => b - f b))
  | [], _ => by simp [bval]
  | b :: l, h => by
    have h1 := h b (by simp)
    have h2 := bv_sub f l (fun c hc => h c (by simp [hc]))
    simp only [bval, List.map_cons]
    omega
theorem bv_add (f g : Nat → Nat) : ∀ l : List Nat, bval (l.map f) + bval (l.map g) = bval (l.map (fun b => f b + g b))
  | [] => by simp [bval]
  | b :: l => by
    have h2 := bv_add f g l
    simp only [bval, List.map_cons]
    omega
theorem bv_n : ∀ l : List Nat, (∀ b ∈ l, b % 16 ≤ 4 ∧ b / 16 ≤ 4) → (bval l + bval l / 16) &&& brep 15 l.length = bval (l.map (fun b => (b + b / 16) % 16)) ∧ bval l % 16 ≤ 4
  | [], _ => by simp [bval, brep]
  | b :: l, h => by
    have h1 := h b (by simp)
    obtain ⟨h2, h3⟩ := bv_n l (fun c hc => h c (by simp [hc]))
    simp only [bval, brep, List.length_cons, List.map_cons]
    refine ⟨?_, by omega⟩
    have e : (b + 256 * bval l) + (b + 256 * bval l) / 16 = (b + b / 16 + 16 * (bval l % 16)) + 256 * (bval l + bval l / 16) := by omega
    rw [e, bs_and _ _ (by omega) (by decide), h2]
    have e15 : (b + b / 16 + 16 * (bval l % 16)) &&& 15 = (b + b / 16 + 16 * (bval l % 16)) % 16 := Nat.and_two_pow_sub_one_eq_mod _ 4
    rw [e15]
    congr 1
    omega
def bf1 (b : Nat) : Nat := b - (b / 2 &&& 85)
def bf2 (b : Nat) : Nat := (b &&& 51) + (b / 4 &&& 51)
def bf3 (b : Nat) : Nat := (b + b / 16) % 16
theorem bf_all : ∀ b, b < 256 → (b / 2 &&& 85) ≤ b ∧ bf1 b < 256 ∧ bf2 (bf1 b) % 16 ≤ 4 ∧ bf2 (bf1 b) / 16 ≤ 4 ∧ bf3 (bf2 (bf1 b)) = cnS (fun j => b.testBit j) 8 := by decide +kernel
theorem bv_cn : ∀ l : List Nat, (∀ b ∈ l, b < 256) → cnS (fun j => (bval l).testBit j) (8 * l.length) = (l.map (fun b => cnS (fun j => b.testBit j) 8)).sum
  | [], _ => rfl
  | b :: l, h => by
    have h1 := h b (by simp)
    have h2 := bv_cn l (fun c hc => h c (by simp [hc]))
    simp only [List.length_cons, List.map_cons, List.sum_cons]
    rw [show 8 * (l.length + 1) = 8 + 8 * l.length by omega, cnS_add, ← h2]
    congr 1
    · apply cnS_cong
      intro i hi
      show (b + 256 * bval l).testBit i = _
      rw [bs_bit _ h1, if_pos hi]
    · apply cnS_cong
      intro i hi
      show (b + 256 * bval l).testBit (8 + i) = _
      rw [bs_bit _ h1, if_neg (by omega)]
      congr 1
      omega
theorem ush64 (x : Int64) (s : Int32) (n : Nat) (hs : ((s.toInt64.toUInt64 &&& Int64.toUInt64 63).toBitVec % 64#64).toNat = n) : (xlushr x s).toBitVec.toNat = x.toBitVec.toNat / 2 ^ n := by
  have : (xlushr x s).toBitVec = x.toBitVec >>> n := by
    show (x.toUInt64 >>> (s.toInt64.toUInt64 &&& Int64.toUInt64 63)).toBitVec = _
    rw [UInt64.toBitVec_shiftRight]
    exact congrArg (fun n => x.toBitVec >>> n) hs
  rw [this, BitVec.toNat_ushiftRight, Nat.shiftRight_eq_div_pow]
theorem add64 (x y : Int64) (h : x.toBitVec.toNat + y.toBitVec.toNat < 2 ^ 64) : (x + y).toBitVec.toNat = x.toBitVec.toNat + y.toBitVec.toNat := by
  rw [Int64.toBitVec_add, BitVec.toNat_add]
  exact Nat.mod_eq_of_lt h
theorem sub64 (x y : Int64) (h : y.toBitVec.toNat ≤ x.toBitVec.toNat) : (x - y).toBitVec.toNat = x.toBitVec.toNat - y.toBitVec.toNat := by
  rw [Int64.toBitVec_sub, BitVec.toNat_sub]
  have := x.toBitVec.isLt
  omega
theorem and64 (x y : Int64) : (x &&& y).toBitVec.toNat = x.toBitVec.toNat &&& y.toBitVec.toNat := by
  rw [Int64.toBitVec_and, BitVec.toNat_and]
theorem low7 (x : Int64) : (x.toInt32 &&& 127) = nI (x.toBitVec.toNat % 128) := by
  have := pk_and x.toInt32 (m := 127) 7 (by decide)
  rw [this]
  congr 1
  rw [Int64.toBitVec_toInt32]
  apply Nat.eq_of_testBit_eq
  intro i
  rw [Nat.testBit_mod_two_pow, show (128 : Nat) = 2 ^ 7 from rfl, Nat.testBit_mod_two_pow, BitVec.testBit_toNat, BitVec.getLsbD_signExtend, BitVec.testBit_toNat]
  by_cases hi : i < 7
  · simp [hi, show i < 32 by omega, show i < 64 by omega]
  · simp [hi]
theorem fold8 {a b c d e f g k : Nat} (ha : a ≤ 8) (hb : b ≤ 8) (hc : c ≤ 8) (hd : d ≤ 8) (he : e ≤ 8) (hf : f ≤ 8) (hg : g ≤ 8) (hk : k ≤ 8) {x x4 x5 x6 : Nat} (h3 : x = bval [a, b, c, d, e, f, g, k]) (h4 : x4 = x + x / 256) (h5 : x5 = x4 + x4 / 65536) (h6 : x6 = x5 + x5 / 4294967296) : x6 % 128 = [a, b, c, d, e, f, g, k].sum ∧ x6 < 2 ^ 64 ∧ x5 < 2 ^ 64 ∧ x4 < 2 ^ 64 := by
  have d1 : ∀ a r : Nat, a ≤ 8 → (a + 256 * r) / 256 = r := fun a r h => by omega
  have d2 : ∀ a b r : Nat, a ≤ 16 → b ≤ 16 → (a + 256 * (b + 256 * r)) / 65536 = r := fun a b r h1 h2 => by omega
  have d4 : ∀ a b c d r : Nat, a ≤ 32 → b ≤ 32 → c ≤ 32 → d ≤ 32 → (a + 256 * (b + 256 * (c + 256 * (d + 256 * r)))) / 4294967296 = r := fun a b c d r h1 h2 h3 h4 => by omega
  have dm : ∀ s r : Nat, s ≤ 64 → (s + 256 * r) % 128 = s := fun s r h => by omega
  have hle : x ≤ brep 8 8 := by
    rw [h3]
    refine bv_le [a, b, c, d, e, f, g, k] (fun y hy => ?_)
    simp only [List.mem_cons, List.not_mem_nil, or_false] at hy
    rcases hy with rfl | rfl | rfl | rfl | rfl | rfl | rfl | rfl <;> assumption
  have hb8 : brep 8 8 < 2 ^ 60 := by decide
  have l4 : x4 ≤ 2 * x := by have := Nat.div_le_self x 256; omega
  have l5 : x5 ≤ 2 * x4 := by have := Nat.div_le_self x4 65536; omega
  have l6 : x6 ≤ 2 * x5 := by have := Nat.div_le_self x5 4294967296; omega
  refine ⟨?_, by omega, by omega, by omega⟩
  clear l4 l5 l6 hb8 hle
  simp only [bval, List.sum_cons, List.sum_nil, Nat.mul_zero, Nat.add_zero] at h3 ⊢
  obtain ⟨r6, q6⟩ : ∃ r, r = g + 256 * k := ⟨_, rfl⟩
  rw [← q6] at h3
  obtain ⟨r5, q5⟩ : ∃ r, r = f + 256 * r6 := ⟨_, rfl⟩
  rw [← q5] at h3
  obtain ⟨r4, q4⟩ : ∃ r, r = e + 256 * r5 := ⟨_, rfl⟩
  rw [← q4] at h3
  obtain ⟨r3, q3⟩ : ∃ r, r = d + 256 * r4 := ⟨_, rfl⟩
  rw [← q3] at h3
  obtain ⟨r2, q2⟩ : ∃ r, r = c + 256 * r3 := ⟨_, rfl⟩
  rw [← q2] at h3
  obtain ⟨r1, q1⟩ : ∃ r, r = b + 256 * r2 := ⟨_, rfl⟩
  rw [← q1] at h3
  have g4 : x4 = (a + b) + 256 * ((b + c) + 256 * (r2 + r3)) := by
    rw [h4, h3, d1 a r1 ha]
    clear h4 h5 h6 h3 d1 d2 d4 dm q3 q4 q5 q6
    omega
  have g5 : x5 = (a + b + c + d) + 256 * ((b + c + d + e) + 256 * ((c + d + e + f) + 256 * ((d + e + f + g) + 256 * (r4 + r5 + r6 + k)))) := by
    rw [h5, g4, d2 _ _ _ (by omega) (by omega)]
    clear h4 h5 h6 h3 d1 d2 d4 dm g4 q1
    omega
  have g6 : x6 = (a + (b + (c + (d + (e + (f + (g + k))))))) + 256 * ((b + c + d + e) + 256 * ((c + d + e + f) + 256 * ((d + e + f + g) + 256 * (r4 + r5 + r6 + k))) + (r5 + r6 + k)) := by
    rw [h6, g5, d4 _ _ _ _ _ (by omega) (by omega) (by omega) (by omega)]
    clear h4 h5 h6 h3 d1 d2 d4 dm g4 g5 q1 q2 q3
    omega
  rw [g6]
  exact dm _ _ (by omega)
theorem pop64 (h : AH) (x : Int64) : f_jL_bitCount h x = some (nI (cnS (fun j => x.toBitVec.getLsbD j) 64)) := by
  have hX : x.toBitVec.toNat < 256 ^ 8 := x.toBitVec.isLt
  obtain ⟨l, el⟩ : ∃ l, l = btl x.toBitVec.toNat 8 := ⟨_, rfl⟩
  have vl : bval l = x.toBitVec.toNat := by rw [el]; exact btl_val 8 _ hX
  have ll : l.length = 8 := by rw [el]; exact btl_len 8 _
  have lb : ∀ b ∈ l, b < 256 := by rw [el]; exact btl_lt 8 _
  have c1 : (6148914691236517205 : Int64).toBitVec.toNat = brep 85 8 := by decide
  have c2 : (3689348814741910323 : Int64).toBitVec.toNat = brep 51 8 := by decide
  have c3 : (1085102592571150095 : Int64).toBitVec.toNat = brep 15 8 := by decide
  -- first
  obtain ⟨x1, e1⟩ : ∃ x1, x1 = x - ((xlushr x (1 : Int32)) &&& (6148914691236517205 : Int64)) := ⟨_, rfl⟩
  have s1 : bval l = bval (l.map (fun b => b / 2 &&& 85)) + bval (l.map bf1) := bv_sub (fun b => b / 2 &&& 85) l (fun b hb => (bf_all b (lb b hb)).1)
  have y1 : ((xlushr x (1 : Int32)) &&& (6148914691236517205 : Int64)).toBitVec.toNat = bval (l.map (fun b => b / 2 &&& 85)) := by
    rw [and64, ush64 x 1 1 (by decide), c1, ← vl, ← ll]
    exact bv_h l lb
  have v1 : x1.toBitVec.toNat = bval (l.map bf1) := by
    rw [e1, sub64 _ _ (by rw [y1, ← vl]; omega), y1, ← vl]; omega
  have l1 : (l.map bf1).length = 8 := by rw [List.length_map, ll]
  have lb1 : ∀ b ∈ l.map bf1, b < 256 := by
    intro b hb
    obtain ⟨d, hd, rfl⟩ := List.mem_map.mp hb
    exact (bf_all d (lb d hd)).2.1
  -- second
  obtain ⟨x2, e2⟩ : ∃ x2, x2 = (x1 &&& (3689348814741910323 : Int64)) + ((xlushr x1 (2 : Int32)) &&& (3689348814741910323 : Int64)) := ⟨_, rfl⟩
  have a2 : (x1 &&& (3689348814741910323 : Int64)).toBitVec.toNat = bval ((l.map bf1).map (fun b => b &&& 51)) := by
    rw [and64, c2, v1, ← l1]; exact bv_and (by decide) _ lb1
  have b2 : ((xlushr x1 (2 : Int32)) &&& (3689348814741910323 : Int64)).toBitVec.toNat = bval ((l.map bf1).map (fun b => b / 4 &&& 51)) := by
    rw [and64, ush64 x1 2 2 (by decide), c2, v1, ← l1]; exact bv_q _ lb1
  have lb2 : ∀ b ∈ (l.map bf1).map bf2, b % 16 ≤ 4 ∧ b / 16 ≤ 4 := by
    intro b hb
    obtain ⟨d, hd, rfl⟩ := List.mem_map.mp hb
    obtain ⟨e, he, rfl⟩ := List.mem_map.mp hd
    exact ⟨(bf_all e (lb e he)).2.2.1, (bf_all e (lb e he)).2.2.2.1⟩
  have l2 : ((l.map bf1).map bf2).length = 8 := by rw [List.length_map, l1]
  have m2 : bval ((l.map bf1).map bf2) ≤ brep 68 8 := by
    rw [← l2]
    exact bv_le _ (fun b hb => by have := lb2 b hb; omega)
  have n68 : brep 68 8 < 2 ^ 63 := by decide
  have sum2 : bval ((l.map bf1).map (fun b => b &&& 51)) + bval ((l.map bf1).map (fun b => b / 4 &&& 51)) = bval ((l.map bf1).map bf2) := bv_add _ _ _
  have v2 : x2.toBitVec.toNat = bval ((l.map bf1).map bf2) := by
    rw [e2, add64 _ _ (by rw [a2, b2, sum2]; omega), a2, b2, sum2]
  -- third
  obtain ⟨x3, e3⟩ : ∃ x3, x3 = (x2 + (xlushr x2 (4 : Int32))) &&& (1085102592571150095 : Int64) := ⟨_, rfl⟩
  have v3 : x3.toBitVec.toNat = bval (((l.map bf1).map bf2).map bf3) := by
    have u4 := ush64 x2 4 4 (by decide)
    rw [e3, and64, add64 _ _ (by rw [u4, v2]; omega), u4, v2, c3, ← l2]
    exact (bv_n _ lb2).1
  have e3' : ((l.map bf1).map bf2).map bf3 = l.map (fun b => cnS (fun j => b.testBit j) 8) := by
    rw [List.map_map, List.map_map]
    apply List.map_congr_left
    intro b hb
    exact (bf_all b (lb b hb)).2.2.2.2
  rw [e3'] at v3
  have tot : cnS (fun j => x.toBitVec.getLsbD j) 64 = (l.map (fun b => cnS (fun j => b.testBit j) 8)).sum := by
    rw [← bv_cn l lb, ll, vl]
    apply cnS_cong
    intro i _
    exact (BitVec.testBit_toNat _).symm
  rw [tot]
  have c8 : ∀ b : Nat, cnS (fun j => b.testBit j) 8 ≤ 8 := fun b => cnS_le _ 8
  simp only [el, btl, List.map_cons, List.map_nil] at v3 ⊢
  obtain ⟨q1, q2, q3, q4⟩ := fold8 (c8 _) (c8 _) (c8 _) (c8 _) (c8 _) (c8 _) (c8 _) (c8 _) v3 rfl rfl rfl
  have u8 := ush64 x3 8 8 (by decide)
  have v4 : (x3 + xlushr x3 (8 : Int32)).toBitVec.toNat = x3.toBitVec.toNat + x3.toBitVec.toNat / 256 := by
    rw [add64 _ _ (by rw [u8]; exact q4), u8]
  obtain ⟨x4, e4⟩ : ∃ x4, x4 = x3 + xlushr x3 (8 : Int32) := ⟨_, rfl⟩
  rw [← e4] at v4
  rw [← v4] at q1 q2 q3
  have u16 := ush64 x4 16 16 (by decide)
  have v5 : (x4 + xlushr x4 (16 : Int32)).toBitVec.toNat = x4.toBitVec.toNat + x4.toBitVec.toNat / 65536 := by
    rw [add64 _ _ (by rw [u16]; exact q3), u16]
  obtain ⟨x5, e5⟩ : ∃ x5, x5 = x4 + xlushr x4 (16 : Int32) := ⟨_, rfl⟩
  rw [← e5] at v5
  rw [← v5] at q1 q2
  have u32 := ush64 x5 32 32 (by decide)
  have v6 : (x5 + xlushr x5 (32 : Int32)).toBitVec.toNat = x5.toBitVec.toNat + x5.toBitVec.toNat / 4294967296 := by
    rw [add64 _ _ (by rw [u32]; exact q2), u32]
  rw [← v6] at q1
  simp only [f_jL_bitCount, Option.bind_some]
  rw [← e1, ← e2, ← e3, ← e4, ← e5, low7, q1]
