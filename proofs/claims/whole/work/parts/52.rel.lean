/-! SMALL NUMBERS: ints as nI n, tests and reads on them -/
theorem lt32 (n : Nat) : (OfNat.ofNat n : Int32) = nI n := rfl
theorem nI_inj {a b : Nat} (ha : a < 2 ^ 31) (hb : b < 2 ^ 31) (h : nI a = nI b) : a = b := (nI_eq ha hb).mp h
/-- an int is one of the n first numbers, or below 0, or too great -/
theorem ix_cases (x : Int32) {n : Nat} (hn : n < 2 ^ 31) : (∃ j, j < n ∧ x = nI j) ∨ (x < 0) ∨ (¬ x < 0 ∧ ¬ x < nI n) := by
  rcases pk_ix x hn with h | h | ⟨j, h1, h2⟩
  · exact Or.inr (Or.inl h)
  · refine Or.inr (Or.inr ⟨?_, Int32.not_lt.mpr h⟩)
    intro q
    have h1 := Int32.lt_iff_toInt_lt.mp q
    have h2 := Int32.le_iff_toInt_le.mp h
    rw [nI_toInt hn] at h2
    simp at h1
    omega
  · exact Or.inl ⟨j, h1, h2⟩
theorem nI_n0 (j : Nat) (h : j < 2 ^ 31) : ¬ nI j < 0 := nI_pos h
theorem cl_nI {j : Nat} (h : j < 2 ^ 31) : (nI j).toNatClampNeg = j := nI_clamp h
theorem ix_n {h : AH} {d a len j : Nat} (hk : hK h a = (d, len)) (hj : j < len) (hl : len < 2 ^ 31) : ix d h a (nI j) = some j := by
  unfold ix
  rw [hk, cl_nI (by omega), if_pos ⟨rfl, nI_n0 j (by omega), hj⟩]
theorem rI_n {h : AH} {d a len j : Nat} (hk : hK h a = (d, len)) (hj : j < len) (hl : len < 2 ^ 31) : rI d h a (nI j) = some (hI h a j) := by
  unfold rI; rw [ix_n hk hj hl]; rfl
theorem rJ_n {h : AH} {a len j : Nat} (hk : hK h a = (4, len)) (hj : j < len) (hl : len < 2 ^ 31) : rJ h a (nI j) = some (hJ h a j) := by
  unfold rJ; rw [ix_n hk hj hl]; rfl
theorem rR_n {h : AH} {c a len j : Nat} (hk : hK h a = (10 + c, len)) (hj : j < len) (hl : len < 2 ^ 31) : rR c h a (nI j) = some (hR h a j) := by
  unfold rR; rw [ix_n hk hj hl]; rfl
theorem wI_n {h : AH} {a len j : Nat} {v : Int32} (h4 : 4 ≤ a) (hk : hK h a = (1, len)) (hj : j < len) (hl : len < 2 ^ 31) : wI h a (nI j) v = some (uI h a j v) := by
  unfold wI; rw [if_pos h4, ix_n hk hj hl]; rfl
theorem wZ_n {h : AH} {a len j : Nat} {v : Int32} (h4 : 4 ≤ a) (hk : hK h a = (2, len)) (hj : j < len) (hl : len < 2 ^ 31) : wZ h a (nI j) v = some (uI h a j (v &&& 1)) := by
  unfold wZ; rw [if_pos h4, ix_n hk hj hl]; rfl
theorem wB_n {h : AH} {a len j : Nat} {v : Int32} (h4 : 4 ≤ a) (hk : hK h a = (3, len)) (hj : j < len) (hl : len < 2 ^ 31) : wB h a (nI j) v = some (uI h a j v.toInt8.toInt32) := by
  unfold wB; rw [if_pos h4, ix_n hk hj hl]; rfl
theorem wJ_n {h : AH} {a len j : Nat} {v : Int64} (h4 : 4 ≤ a) (hk : hK h a = (4, len)) (hj : j < len) (hl : len < 2 ^ 31) : wJ h a (nI j) v = some (uJ h a j v) := by
  unfold wJ; rw [if_pos h4, ix_n hk hj hl]; rfl
theorem gI_n {h : AH} {c a k : Nat} (hk : hK h a = (100 + c, 0)) : gI c h a k = some (hI h a k) := if_pos hk
theorem gJ_n {h : AH} {c a k : Nat} (hk : hK h a = (100 + c, 0)) : gJ c h a k = some (hJ h a k) := if_pos hk
theorem gR_n {h : AH} {c a k : Nat} (hk : hK h a = (100 + c, 0)) : gR c h a k = some (hR h a k) := if_pos hk
theorem pI_n {h : AH} {c a k : Nat} {v : Int32} (hk : hK h a = (100 + c, 0)) : pI c h a k v = some (uI h a k v) := if_pos hk
theorem pJ_n {h : AH} {c a k : Nat} {v : Int64} (hk : hK h a = (100 + c, 0)) : pJ c h a k v = some (uJ h a k v) := if_pos hk
theorem pR_n {h : AH} {c a k : Nat} {v : Option Nat} (hk : hK h a = (100 + c, 0)) : pR c h a k v = some (uR h a k v) := if_pos hk
theorem pZ_n {h : AH} {c a k : Nat} {v : Int32} (hk : hK h a = (100 + c, 0)) (hv : v = 0 ∨ v = 1) : pZ c h a k v = some (uI h a k v) := if_pos ⟨hk, hv⟩
theorem cv_n {α : Type} {h : AH} {c b : Nat} {o : Option α} (hk : hK h b = (100 + c, 0)) : cv c h b o = o := if_pos hk
theorem in_M (h : AH) (v lo hi : Int32) : f_M_in h v lo hi = some (if v < lo then 0 else if hi < v then 0 else 1) := by
  simp only [f_M_in]
  split
  · rfl
  · split <;> rfl
theorem nI_m1 {n : Nat} (hn : n < 2 ^ 30) (x : Int32) (h0 : ¬ x < 0) : (nI n - 1 < x) ↔ ¬ x < nI n := by
  have e1 : (nI n - 1).toInt = (n : Int) - 1 := by
    have := pk_sub_toInt (a := n) (b := 1) hn (by decide)
    exact this
  rw [Int32.lt_iff_toInt_lt, Int32.lt_iff_toInt_lt, e1, nI_toInt (by omega)]
  omega
/-- whether an int is one of the n first numbers -/
theorem in_M0 (h : AH) (x : Int32) {n : Nat} (hn : n < 2 ^ 30) : f_M_in h x 0 (nI n - 1) = some (if x < 0 then 0 else if x < nI n then 1 else 0) := by
  rw [in_M]
  by_cases h0 : x < 0
  · simp [h0]
  · simp only [h0, if_false]
    by_cases h1 : x < nI n
    · rw [if_pos h1, if_neg (fun q => (nI_m1 hn x h0).mp q h1)]
    · rw [if_neg h1, if_pos ((nI_m1 hn x h0).mpr h1)]
theorem in_Mk (h : AH) (x : Int32) {n : Nat} (hn : n < 2 ^ 30) : f_M_in h x 0 (nI n) = some (if x < 0 then 0 else if x < nI (n + 1) then 1 else 0) := by
  rw [in_M]
  have e : (nI n < x) ↔ ¬ x < nI (n + 1) := by
    rw [Int32.lt_iff_toInt_lt, Int32.lt_iff_toInt_lt, nI_toInt (by omega), nI_toInt (by omega)]
    omega
  by_cases h0 : x < 0
  · simp [h0]
  · simp only [h0, if_false]
    by_cases h1 : x < nI (n + 1)
    · rw [if_pos h1, if_neg (fun q => e.mp q h1)]
    · rw [if_neg h1, if_pos (e.mpr h1)]
/-- a mask out of the first n answers -/
def msk (f : Nat → Bool) : Nat → Nat
  | 0 => 0
  | n + 1 => msk f n + (if f n then 2 ^ n else 0)
theorem msk_lt (f : Nat → Bool) : ∀ n, msk f n < 2 ^ n
  | 0 => by simp [msk]
  | n + 1 => by
    have := msk_lt f n
    simp only [msk, Nat.pow_succ]
    split <;> omega
theorem msk_bit (f : Nat → Bool) : ∀ n i, (msk f n).testBit i = (decide (i < n) && f i)
  | 0, i => by simp [msk]
  | n + 1, i => by
    have h1 := msk_lt f n
    have h2 := msk_bit f n i
    simp only [msk]
    by_cases hf : f n
    · rw [if_pos hf, Nat.add_comm, show 2 ^ n + msk f n = 2 ^ n * 1 + msk f n by omega, Nat.testBit_two_pow_mul_add 1 h1]
      by_cases hi : i < n
      · rw [if_pos hi, h2]; simp [hi, show i < n + 1 by omega]
      · rw [if_neg hi]
        by_cases he : i = n
        · subst he; simp [hf]
        · have : i - n ≠ 0 := by omega
          rw [show i - n = (i - n - 1) + 1 by omega]
          simp [Nat.testBit_succ, show ¬ i < n + 1 by omega]
    · rw [if_neg hf, Nat.add_zero, h2]
      by_cases hi : i < n
      · simp [hi, show i < n + 1 by omega]
      · by_cases he : i = n
        · subst he; simp [hf]
        · simp [hi, show ¬ i < n + 1 by omega]
/-- a bit of a small number, as the program asks for it -/
theorem bit_nI {n i : Nat} (hn : n < 2 ^ 31) (hi : i < 31) : ((nI n >>> (nI i &&& 31)) &&& 1) = nI (n / 2 ^ i % 2) := by
  have hs : ((nI i &&& 31).toBitVec.smod 32).toNat = i := by
    have : ∀ i, i < 31 → ((nI i &&& 31).toBitVec.smod 32).toNat = i := by decide
    exact this i hi
  rw [pk_shrN hn _ i hs]
  have := pk_andN (n := n / 2 ^ i) (m := 1) (Nat.lt_of_le_of_lt (Nat.div_le_self _ _) (by omega)) 1 (by decide)
  rw [this]
theorem bit_0 {n i : Nat} (hn : n < 2 ^ 31) (hi : i < 31) : ((nI n >>> (nI i &&& 31)) &&& 1) = 0 ↔ n.testBit i = false := by
  rw [bit_nI hn hi, show (0 : Int32) = nI 0 from rfl, nI_eq (by omega) (by decide), Nat.testBit_eq_decide_div_mod_eq]
  have : n / 2 ^ i % 2 < 2 := Nat.mod_lt _ (by decide)
  simp
/-! THE RELATION between the class and the reference, by subsystem -/
/-- what the reference holds of talk t: the step behind state s by kind k (sign 8 * sign + message), whether s may end -/
def nx (h : AH) (t s k : Nat) : Int32 := hI h 204 (400 * t + 16 * s + k)
def en (h : AH) (t s : Nat) : Int32 := hI h 205 (25 * t + s)
/-- talk t, of n steps, stands at a -/
def TK (h : AH) (t a n : Nat) : Prop := n ≤ 24 ∧ 237 ≤ a ∧ a + 3 < hM h ∧ (hK h a = (109, 0) ∧ hK h (a + 1) = (1, 16 * (n + 1)) ∧ hK h (a + 2) = (1, n + 1) ∧ hK h (a + 3) = (1, n + 1)) ∧ (hR h a 2 = some (a + 1) ∧ hR h a 3 = some (a + 2) ∧ hR h a 4 = some (a + 3)) ∧ hI h a 0 = nI n ∧ hI h 203 t = nI n ∧
  (∀ s, s ≤ n → ∀ k, k < 16 → hI h (a + 1) (16 * s + k) = nx h t s k ∧ (nx h t s k = -1 ∨ ∃ j, 1 ≤ j ∧ j ≤ n ∧ nx h t s k = nI j)) ∧
  (∀ s, s ≤ n → en h t s = 0 ∨ en h t s = 1) ∧ hI h a 1 = nI (msk (fun s => decide (en h t s = 1)) (n + 1)) ∧
  (∀ s, s ≤ n → hI h (a + 2) s = nI (msk (fun m => decide (¬ nx h t s m = -1)) 8) ∧ hI h (a + 3) s = nI (msk (fun m => decide (¬ nx h t s (8 + m) = -1)) 8))
def RTalks (h : AH) (tn : Nat) (ta ts : Nat → Nat) : Prop := tn ≤ 6 ∧ hI h 4 2 = nI tn ∧ hI h 201 2 = nI tn ∧ ∀ t, t < tn → hR h 91 t = some (ta t) ∧ TK h t (ta t) (ts t)
def RPage (h : AH) (pn : Nat) (pg : Nat → Nat) : Prop := pn ≤ 80 ∧ hI h 5 1 = nI pn ∧ hI h 201 0 = nI pn ∧ ∀ i, i < pn → 1 ≤ pg i ∧ pg i ≤ 126 ∧ hI h 6 i = nI (pg i) ∧ hI h 202 i = nI (pg i)
/-- helper s, of hn, stands at a -/
def HP (h : AH) (hn s a : Nat) : Prop := 237 ≤ a ∧ a + 1 < hM h ∧ hK h a = (104, 0) ∧ hK h (a + 1) = (1, 8) ∧ hR h a 0 = some (a + 1) ∧ (∀ w, w < 5 → hI h (a + 1) w = hI h 209 (5 * s + w)) ∧ hI h (a + 1) 5 = hI h 206 s ∧ hI h (a + 1) 6 = hI h 207 s ∧ hI h (a + 1) 7 = hI h 208 s ∧
  (∃ v, v ≤ 50 ∧ hI h 209 (5 * s) = nI v) ∧ (∃ v, v ≤ 9 ∧ hI h 209 (5 * s + 1) = nI v) ∧ (∃ v, 1 ≤ v ∧ v ≤ 3 ∧ hI h 209 (5 * s + 2) = nI v) ∧ (∃ v, v ≤ 3 ∧ hI h 209 (5 * s + 3) = nI v) ∧ (hI h 209 (5 * s + 4) = -1 ∨ ∃ v, v < hn ∧ hI h 209 (5 * s + 4) = nI v) ∧
  (∃ v, v < 4096 ∧ hI h 206 s = nI v) ∧ (∃ v, v < 4096 ∧ hI h 207 s = nI v) ∧ (∃ v, v < 4096 ∧ hI h 208 s = nI v)
def RHelp (h : AH) (hn : Nat) (ha : Nat → Nat) : Prop := hn ≤ 8 ∧ hI h 107 1 = nI hn ∧ hI h 201 9 = nI hn ∧ ∀ s, s < hn → hR h 108 s = some (ha s) ∧ HP h hn s (ha s)
def RLev (h : AH) : Prop := ∀ f, f < 12 → hI h 109 f = hI h 210 f ∧ ∃ v, v ≤ 3 ∧ hI h 210 f = nI v
def RRow (h : AH) (hn rn : Nat) : Prop := rn ≤ 5 ∧ hI h 107 4 = nI rn ∧ hI h 201 15 = nI rn ∧ ∀ i, i < rn → hI h 110 i = hI h 211 i ∧ ∃ s, s < hn ∧ hI h 211 i = nI s
def RCnt (h : AH) : Prop := (∃ n, n ≤ 20 ∧ hI h 4 6 = nI n ∧ hI h 201 6 = nI n) ∧ (∃ n, n ≤ 20 ∧ hI h 4 7 = nI n ∧ hI h 201 7 = nI n) ∧ ∃ n, n ≤ 20 ∧ hI h 4 9 = nI n ∧ hI h 201 8 = nI n
def RJoin (h : AH) : Prop := hI h 92 3 = hI h 201 35 ∧ ∃ n, n ≤ 4000 ∧ hI h 92 7 = nI n ∧ hI h 201 36 = nI n ∧ ∀ i, i < n → hI h 97 i = hI h 224 i
/-- the worlds as sets, behind each event -/
def dnW (nd gv tk : Nat) (S : Nat → Bool) (w : Nat) : Bool := (List.range 4096).any (fun v => S v && decide (nd &&& v = nd) && decide (w = (v &&& (4095 - tk)) ||| gv))
def stepK (kd : Int32) (o nd gv tk : Nat) (S : Nat → Bool) (w : Nat) : Bool := if kd = 0 then dnW nd gv tk S w else if kd = 1 then S w else if kd = 2 then S w || dnW nd gv tk S w else if kd = 3 then S w && w.testBit o else S w && !w.testBit o
def ofN (h : AH) (e : Nat) : Nat := (hI h 213 e).toNatClampNeg
def stepW (h : AH) (e : Nat) (S : Nat → Bool) : Nat → Bool := stepK (hI h 212 e) (ofN h e) (hI h 206 (ofN h e)).toBitVec.toNat (hI h 207 (ofN h e)).toBitVec.toNat (hI h 208 (ofN h e)).toBitVec.toNat S
def wld (h : AH) : Nat → Nat → Bool
  | 0 => fun w => decide (hI h 201 17 = nI w)
  | e + 1 => stepW h e (wld h e)
def RLog (h : AH) (hn ev : Nat) : Prop := ev ≤ 30 ∧ hI h 135 1 = nI ev ∧ hI h 201 18 = nI ev ∧ (∃ f, f < 4096 ∧ hI h 201 17 = nI f) ∧ (∀ e, e < ev → ∃ k o, hI h 212 e = nI k ∧ hI h 213 e = nI o ∧ ((k < 3 ∧ o < hn) ∨ ((k = 3 ∨ k = 4) ∧ o < 12))) ∧
  ∀ t, t ≤ ev → ∀ w, w < 4096 → (hJ h (140 + 2 * t) (w / 64)).toBitVec.getLsbD (w % 64) = wld h t w
