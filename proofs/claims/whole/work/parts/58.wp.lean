/-! STEPS: an option that answers, and what its answer keeps -/
def OK {α : Type} (o : Option α) (Q : α → Prop) : Prop := ∃ r, o = some r ∧ Q r
theorem OK.mk {α : Type} {a : α} {Q : α → Prop} (q : Q a) : OK (some a) Q := ⟨a, rfl, q⟩
theorem OK.bind {α β : Type} {o : Option α} {f : α → Option β} {Q : β → Prop} (k : OK o (fun a => OK (f a) Q)) : OK (o.bind f) Q := by
  obtain ⟨a, rfl, r, e, q⟩ := k
  exact ⟨r, e, q⟩
theorem OK.mono {α : Type} {o : Option α} {Q Q' : α → Prop} (k : OK o Q) (q : ∀ a, Q a → Q' a) : OK o Q' := by
  obtain ⟨a, e, r⟩ := k
  exact ⟨a, e, q a r⟩
theorem OK.ite {c : Prop} [Decidable c] {α : Type} {a b : Option α} {Q : α → Prop} (h1 : c → OK a Q) (h2 : ¬ c → OK b Q) : OK (if c then a else b) Q := by
  by_cases q : c
  · rw [if_pos q]; exact h1 q
  · rw [if_neg q]; exact h2 q
theorem OK.eq {α : Type} {o : Option α} {a : α} {Q : α → Prop} (e : o = some a) (q : Q a) : OK o Q := ⟨a, e, q⟩
theorem OK.bd2 {α β γ : Type} {o : Option (α × β)} {f : α → β → Option γ} {Q : γ → Prop} (k : OK o (fun a => OK (f a.1 a.2) Q)) : OK (bd2 o f) Q := OK.bind k
theorem loopU {σ β : Type} (F : Nat → σ → Option β) (I : σ → Prop) (μ : σ → Nat) (Q : β → Prop) (st : ∀ n s, I s → (∀ s', I s' → μ s' < μ s → OK (F n s') Q) → OK (F (n + 1) s) Q) : ∀ n s, I s → μ s < n → OK (F n s) Q := by
  intro n
  induction n with
  | zero => intro s _ h; omega
  | succ n ih => intro s hs hm; exact st n s hs (fun s' h1 h2 => ih s' h1 (by omega))
/-- a set of places: single ones, and whole rows -/
def SP (P : List (Nat × Nat)) (A : List Nat) (a k : Nat) : Prop := (a, k) ∈ P ∨ a ∈ A
theorem Fr.I {S : Nat → Nat → Prop} {h h' : AH} (f : Fr S h h') {a k : Nat} (n : ¬ S a k) : hI h' a k = hI h a k := (f.2.2.2 a k n).1
theorem Fr.J {S : Nat → Nat → Prop} {h h' : AH} (f : Fr S h h') {a k : Nat} (n : ¬ S a k) : hJ h' a k = hJ h a k := (f.2.2.2 a k n).2.1
theorem Fr.R {S : Nat → Nat → Prop} {h h' : AH} (f : Fr S h h') {a k : Nat} (n : ¬ S a k) : hR h' a k = hR h a k := (f.2.2.2 a k n).2.2
theorem Fr.K {S : Nat → Nat → Prop} {h h' : AH} (f : Fr S h h') (a : Nat) : hK h' a = hK h a := f.2.2.1 a
theorem nI_sub1 {n : Nat} (h : 0 < n) : nI n - 1 = nI (n - 1) := by
  obtain ⟨m, rfl⟩ : ∃ m, n = m + 1 := ⟨n - 1, by omega⟩
  exact nI_pred m
/-! LETTERS out of a long -/
def by8 (w : Int64) (i : Nat) : Nat := w.toBitVec.toNat / 2 ^ (8 * i) % 256
theorem by8_bit (w : Int64) (i j : Nat) : (by8 w i).testBit j = (decide (j < 8) && w.toBitVec.toNat.testBit (8 * i + j)) := by
  unfold by8
  rw [show (256 : Nat) = 2 ^ 8 from rfl, Nat.testBit_mod_two_pow, Nat.testBit_div_two_pow, Nat.add_comm]
theorem by8_lt (w : Int64) (i : Nat) : by8 w i < 256 := Nat.mod_lt _ (by decide)
theorem by8_u (w : Int64) {i : Nat} (hi : i < 8) : ((xlushr w ((8 : Int32) * nI i)).toInt32 &&& (255 : Int32)) = nI (by8 w i) := by
  apply Int32.toBitVec_inj.mp
  apply BitVec.eq_of_getLsbD_eq
  intro j hj
  have hr : (nI (by8 w i)).toBitVec.getLsbD j = (decide (j < 8) && w.toBitVec.toNat.testBit (8 * i + j)) := by
    show (BitVec.ofNat 32 (by8 w i)).getLsbD j = _
    rw [BitVec.getLsbD_ofNat, by8_bit]
    simp [hj]
  rw [hr]
  have hs : ((((8 : Int32) * nI i).toInt64.toUInt64 &&& Int64.toUInt64 63).toBitVec % 64#64).toNat = 8 * i := by
    rcases (show i = 0 ∨ i = 1 ∨ i = 2 ∨ i = 3 ∨ i = 4 ∨ i = 5 ∨ i = 6 ∨ i = 7 by omega) with rfl | rfl | rfl | rfl | rfl | rfl | rfl | rfl <;> decide
  have h1 : (xlushr w ((8 : Int32) * nI i)).toBitVec = w.toBitVec >>> (8 * i) := by
    show (w.toUInt64 >>> (((8 : Int32) * nI i).toInt64.toUInt64 &&& Int64.toUInt64 63)).toBitVec = _
    rw [UInt64.toBitVec_shiftRight]
    show w.toBitVec >>> (((((8 : Int32) * nI i).toInt64.toUInt64 &&& Int64.toUInt64 63).toBitVec % 64#64)).toNat = _
    rw [hs]
  rw [Int32.toBitVec_and, BitVec.getLsbD_and, Int64.toBitVec_toInt32, h1]
  have h255 : (255 : Int32).toBitVec.getLsbD j = decide (j < 8) := by
    have : ∀ j, j < 32 → (255 : Int32).toBitVec.getLsbD j = decide (j < 8) := by decide
    exact this j hj
  rw [h255, BitVec.getLsbD_signExtend, BitVec.getLsbD_ushiftRight]
  simp [hj, show j < 64 by omega, BitVec.testBit_toNat, Bool.and_comm]
theorem by8_s (w : Int64) {i : Nat} (hi : i < 8) : (xlshr w ((8 : Int32) * nI i)).toBitVec = w.toBitVec.sshiftRight (8 * i) := by
  have hs : (((((8 : Int32) * nI i).toInt64 &&& 63).toBitVec).smod 64#64).toNat = 8 * i := by
    rcases (show i = 0 ∨ i = 1 ∨ i = 2 ∨ i = 3 ∨ i = 4 ∨ i = 5 ∨ i = 6 ∨ i = 7 by omega) with rfl | rfl | rfl | rfl | rfl | rfl | rfl | rfl <;> decide
  show (w >>> (((8 : Int32) * nI i).toInt64 &&& 63)).toBitVec = _
  rw [Int64.toBitVec_shiftRight]
  show w.toBitVec.sshiftRight' _ = _
  show w.toBitVec.sshiftRight (BitVec.toNat _) = _
  exact congrArg _ hs
theorem by8_m (w : Int64) {i : Nat} (hi : i < 8) : ((xlshr w ((8 : Int32) * nI i)) &&& (255 : Int64)).toInt32 = nI (by8 w i) := by
  apply Int32.toBitVec_inj.mp
  apply BitVec.eq_of_getLsbD_eq
  intro j hj
  have hr : (nI (by8 w i)).toBitVec.getLsbD j = (decide (j < 8) && w.toBitVec.toNat.testBit (8 * i + j)) := by
    show (BitVec.ofNat 32 (by8 w i)).getLsbD j = _
    rw [BitVec.getLsbD_ofNat, by8_bit]
    simp [hj]
  rw [hr, Int64.toBitVec_toInt32, BitVec.getLsbD_signExtend, if_pos (show j < 64 by omega), Int64.toBitVec_and, BitVec.getLsbD_and, by8_s w hi, BitVec.getLsbD_sshiftRight]
  have h255 : (255 : Int64).toBitVec.getLsbD j = decide (j < 8) := by
    have : ∀ j, j < 32 → (255 : Int64).toBitVec.getLsbD j = decide (j < 8) := by decide
    exact this j hj
  rw [h255]
  by_cases h8 : j < 8
  · simp [hj, h8, show ¬ 64 ≤ j by omega, show 8 * i + j < 64 by omega, BitVec.testBit_toNat]
  · simp [h8]
theorem by8_b (w : Int64) {i : Nat} (hi : i < 8) (h : by8 w i ≤ 126) : ((xlshr w ((8 : Int32) * nI i)).toInt32.toInt8.toInt32).toInt8.toInt32 = nI (by8 w i) := by
  have e1 : (xlshr w ((8 : Int32) * nI i)).toInt32.toInt8 = Int8.ofNat (by8 w i) := by
    apply Int8.toBitVec_inj.mp
    apply BitVec.eq_of_getLsbD_eq
    intro j hj
    have hr : (Int8.ofNat (by8 w i)).toBitVec.getLsbD j = (decide (j < 8) && w.toBitVec.toNat.testBit (8 * i + j)) := by
      show (BitVec.ofNat 8 (by8 w i)).getLsbD j = _
      rw [BitVec.getLsbD_ofNat, by8_bit]
      simp [hj]
    rw [hr, Int32.toBitVec_toInt8, BitVec.getLsbD_signExtend, if_pos (show j < 32 by omega), Int64.toBitVec_toInt32, BitVec.getLsbD_signExtend, if_pos (show j < 64 by omega), by8_s w hi, BitVec.getLsbD_sshiftRight]
    simp [hj, show j < 32 by omega, show ¬ 64 ≤ j by omega, show 8 * i + j < 64 by omega, BitVec.testBit_toNat]
  rw [e1]
  have : ∀ n, n ≤ 126 → (Int8.ofNat n).toInt32.toInt8.toInt32 = nI n := by decide +kernel
  exact this _ h
