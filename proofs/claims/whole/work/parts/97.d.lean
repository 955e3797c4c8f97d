/-! CODES OF ADAPTERS: digits by eights, the good ones in their order -/
def dg (w c k : Nat) : Nat := c / 8 ^ (w - 1 - k) % 8
theorem dg_lt (w c k : Nat) : dg w c k < 8 := Nat.mod_lt _ (by decide)
theorem dg_pre {K r c v k : Nat} (h : c / 8 ^ r = v) (hk : k < K) : dg (K + r) c k = dg K v k := by
  unfold dg
  rw [← h, Nat.div_div_eq_div_mul, ← Nat.pow_add, show K + r - 1 - k = r + (K - 1 - k) by omega]
theorem dg_ext {K v n k : Nat} (hn : n < 8) (hk : k < K) : dg (K + 1) (8 * v + n) k = dg K v k := dg_pre (r := 1) (by rw [Nat.pow_one]; omega) hk
theorem dg_last {K v n : Nat} (hn : n < 8) : dg (K + 1) (8 * v + n) K = n := by
  unfold dg
  rw [show K + 1 - 1 - K = 0 by omega, Nat.pow_zero, Nat.div_one]; omega
def gds (G : Nat → Bool) (c : Nat) : List Nat := (List.range c).filter G
theorem gds_s (G : Nat → Bool) (c : Nat) : gds G (c + 1) = gds G c ++ (if G c = true then [c] else []) := by
  unfold gds
  rw [List.range_succ, List.filter_append]
  congr 1
  cases q : G c <;> simp [List.filter, q]
theorem gds_none (G : Nat → Bool) : ∀ d lo, (∀ c, lo ≤ c → c < lo + d → G c = false) → gds G (lo + d) = gds G lo
  | 0, _, _ => rfl
  | d + 1, lo, h => by
    rw [← Nat.add_assoc, gds_s, h (lo + d) (by omega) (by omega), gds_none G d lo (fun c a b => h c a (by omega))]
    simp
theorem gds_len (G : Nat → Bool) : ∀ c, (gds G c).length = cnS G c
  | 0 => rfl
  | c + 1 => by
    rw [gds_s, List.length_append, gds_len G c]
    simp only [cnS]
    congr 1
    cases G c <;> rfl
theorem gds_mono (G : Nat → Bool) : ∀ d c, (gds G c).length ≤ (gds G (c + d)).length
  | 0, _ => Nat.le_refl _
  | d + 1, c => by
    have := gds_mono G d c
    rw [← Nat.add_assoc, gds_s, List.length_append]
    omega
/-- how many ways there are without a digit twice -/
def cj : Nat → Nat → Nat
  | 0, _ => 1
  | r + 1, u => (if u.testBit 0 then 0 else cj r (u ||| 2 ^ 0)) + (if u.testBit 1 then 0 else cj r (u ||| 2 ^ 1)) + (if u.testBit 2 then 0 else cj r (u ||| 2 ^ 2)) + (if u.testBit 3 then 0 else cj r (u ||| 2 ^ 3)) + (if u.testBit 4 then 0 else cj r (u ||| 2 ^ 4)) + (if u.testBit 5 then 0 else cj r (u ||| 2 ^ 5)) + (if u.testBit 6 then 0 else cj r (u ||| 2 ^ 6)) + (if u.testBit 7 then 0 else cj r (u ||| 2 ^ 7))
theorem cj_6720 : ∀ w, w ≤ 5 → cj w 0 ≤ 6720 := by decide +kernel
theorem cnS_8 (S : Nat → Bool) (B : Nat) (t : Nat → Nat) (h : ∀ i, i < 8 → cnS (fun j => S (i * B + j)) B ≤ t i) : cnS S (8 * B) ≤ t 0 + t 1 + t 2 + t 3 + t 4 + t 5 + t 6 + t 7 := by
  have st : ∀ i, cnS S ((i + 1) * B) = cnS S (i * B) + cnS (fun j => S (i * B + j)) B := fun i => by rw [Nat.succ_mul, cnS_add]
  have z : cnS S (0 * B) = 0 := by rw [Nat.zero_mul]; rfl
  have a0 := st 0
  have a1 := st 1
  have a2 := st 2
  have a3 := st 3
  have a4 := st 4
  have a5 := st 5
  have a6 := st 6
  have a7 := st 7
  have b0 := h 0 (by decide)
  have b1 := h 1 (by decide)
  have b2 := h 2 (by decide)
  have b3 := h 3 (by decide)
  have b4 := h 4 (by decide)
  have b5 := h 5 (by decide)
  have b6 := h 6 (by decide)
  have b7 := h 7 (by decide)
  simp only [show 0 + 1 = 1 from rfl, show 1 + 1 = 2 from rfl, show 2 + 1 = 3 from rfl, show 3 + 1 = 4 from rfl, show 4 + 1 = 5 from rfl, show 5 + 1 = 6 from rfl, show 6 + 1 = 7 from rfl, show 7 + 1 = 8 from rfl] at a0 a1 a2 a3 a4 a5 a6 a7
  rw [a7, a6, a5, a4, a3, a2, a1, a0, z]
  omega
theorem few_inj {w : Nat} {G : Nat → Bool} (hG : ∀ c, c < 8 ^ w → G c = true → Inj (dg w c) w) : ∀ r K v u, K + r = w → v < 8 ^ K → (∀ z, u.testBit z = true → ∃ k, k < K ∧ dg K v k = z) → cnS (fun j => G (v * 8 ^ r + j)) (8 ^ r) ≤ cj r u := by
  intro r
  induction r with
  | zero =>
    intro K v u _ _ _
    exact cnS_le _ 1
  | succ r ih =>
    intro K v u hw hv hu
    have p8 : 8 ^ (r + 1) = 8 * 8 ^ r := by rw [Nat.pow_succ, Nat.mul_comm]
    have pw : 8 ^ w = 8 ^ K * 8 ^ (r + 1) := by rw [← hw, Nat.pow_add]
    rw [p8]
    refine cnS_8 _ (8 ^ r) (fun i => if u.testBit i then 0 else cj r (u ||| 2 ^ i)) (fun i hi => ?_)
    have e : ∀ j, v * (8 * 8 ^ r) + (i * 8 ^ r + j) = (8 * v + i) * 8 ^ r + j := fun j => by
      rw [Nat.add_mul, show v * (8 * 8 ^ r) = 8 * v * 8 ^ r by rw [← Nat.mul_assoc, Nat.mul_comm v 8]]
      omega
    have vi : 8 * v + i < 8 ^ (K + 1) := by rw [Nat.pow_succ]; omega
    simp only [e]
    by_cases q : u.testBit i = true
    · rw [if_pos q]
      rw [cnS_0 (8 ^ r) (fun j hj => ?_)]
      · exact Nat.le_refl 0
      · cases g : G ((8 * v + i) * 8 ^ r + j) with
        | false => rfl
        | true =>
          exfalso
          obtain ⟨k, k1, k2⟩ := hu i q
          have dv : ((8 * v + i) * 8 ^ r + j) / 8 ^ r = 8 * v + i := by
            rw [Nat.mul_comm, Nat.mul_add_div (Nat.two_pow_pos 3 |> fun _ => Nat.pow_pos (by decide)), Nat.div_eq_of_lt hj, Nat.add_zero]
          have lt : (8 * v + i) * 8 ^ r + j < 8 ^ w := by
            rw [← hw, show K + (r + 1) = (K + 1) + r by omega, Nat.pow_add]
            have : (8 * v + i + 1) * 8 ^ r ≤ 8 ^ (K + 1) * 8 ^ r := Nat.mul_le_mul_right _ vi
            rw [Nat.add_mul, Nat.one_mul] at this
            omega
          have I := hG _ lt g
          have d1 : dg w ((8 * v + i) * 8 ^ r + j) k = i := by
            rw [← hw, show K + (r + 1) = (K + 1) + r by omega, dg_pre dv (by omega), dg_ext hi k1]; exact k2
          have d2 : dg w ((8 * v + i) * 8 ^ r + j) K = i := by
            rw [← hw, show K + (r + 1) = (K + 1) + r by omega, dg_pre dv (by omega)]; exact dg_last hi
          exact I k K k1 (by omega) (by rw [d1, d2])
    · rw [if_neg q]
      refine ih (K + 1) (8 * v + i) (u ||| 2 ^ i) (by omega) vi (fun z hz => ?_)
      rcases tb_or.mp hz with z1 | z1
      · obtain ⟨k, k1, k2⟩ := hu z z1
        exact ⟨k, by omega, by rw [dg_ext hi k1]; exact k2⟩
      · exact ⟨K, by omega, by rw [z1]; exact dg_last hi⟩
theorem gds_6720 {w : Nat} {G : Nat → Bool} (w5 : w ≤ 5) (hG : ∀ c, c < 8 ^ w → G c = true → Inj (dg w c) w) : (gds G (8 ^ w)).length ≤ 6720 := by
  rw [gds_len]
  have := few_inj hG w 0 0 0 (by omega) (by decide) (fun z hz => by rw [Nat.zero_testBit] at hz; cases hz)
  simp only [Nat.zero_mul, Nat.zero_add] at this
  exact Nat.le_trans this (cj_6720 w w5)
/-- a code as the class packs it -/
def pkd (d : Nat → Nat) : Nat → Nat
  | 0 => 0
  | k + 1 => pkd d k + d k * 16 ^ k
theorem pkd_lt {d : Nat → Nat} (h : ∀ k, d k < 8) : ∀ w, pkd d w < 16 ^ w
  | 0 => by simp [pkd]
  | w + 1 => by
    have := pkd_lt h w
    have d8 := h w
    simp only [pkd, Nat.pow_succ]
    have : d w * 16 ^ w ≤ 7 * 16 ^ w := Nat.mul_le_mul_right _ (by omega)
    omega
theorem pkd_at {d : Nat → Nat} (h : ∀ k, d k < 8) {w k : Nat} (hw : w ≤ 5) (hk : k < w) : pkd d w / 16 ^ k % 16 = d k := by
  have h0 := h 0
  have h1 := h 1
  have h2 := h 2
  have h3 := h 3
  have h4 := h 4
  rcases (show w = 1 ∨ w = 2 ∨ w = 3 ∨ w = 4 ∨ w = 5 by omega) with rfl | rfl | rfl | rfl | rfl <;>
  rcases (show k = 0 ∨ k = 1 ∨ k = 2 ∨ k = 3 ∨ k = 4 by omega) with rfl | rfl | rfl | rfl | rfl <;>
  first | (exfalso; omega) | (simp only [pkd, show 16 ^ 0 = 1 from rfl, show 16 ^ 1 = 16 from rfl, show 16 ^ 2 = 256 from rfl, show 16 ^ 3 = 4096 from rfl, show 16 ^ 4 = 65536 from rfl]; omega)
theorem oO_cong {ms d d' : Nat → Nat} {z : Nat} : ∀ K, (∀ k, k < K → d k = d' k) → oO ms d K z = oO ms d' K z
  | 0, _ => rfl
  | K + 1, e => by
    simp only [oO]
    rw [e K (by omega), oO_cong K (fun k hk => e k (by omega))]
theorem bB_r (ms d : Nat → Nat) (z : Nat) : ∀ w, (bB ms d w z = -1 ∧ ∀ k, k < w → ¬ ms k = z) ∨ ∃ k, k < w ∧ ms k = z ∧ bB ms d w z = nI (d k)
  | 0 => Or.inl ⟨rfl, fun k hk => by omega⟩
  | w + 1 => by
    by_cases q : ms w = z
    · exact Or.inr ⟨w, by omega, q, if_pos q⟩
    · rw [show bB ms d (w + 1) z = bB ms d w z from if_neg q]
      rcases bB_r ms d z w with ⟨a, b⟩ | ⟨k, a, b, c⟩
      · refine Or.inl ⟨a, fun k hk => ?_⟩
        by_cases e : k = w
        · rw [e]; exact q
        · exact b k (by omega)
      · exact Or.inr ⟨k, by omega, b, c⟩
