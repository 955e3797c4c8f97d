/-! DATA FRAMES: only ints and longs at the places S change, nothing new, no reference -/
def Dfr (S : Nat → Nat → Prop) (h h' : AH) : Prop := (hM h' = hM h ∧ hZ h' = hZ h) ∧ (∀ a, hK h' a = hK h a) ∧ (∀ a k, hR h' a k = hR h a k) ∧ ∀ a k, ¬ (4 ≤ a ∧ S a k) → hI h' a k = hI h a k ∧ hJ h' a k = hJ h a k
section FDS
variable {S T : Nat → Nat → Prop} {h h' h1 h2 : AH} {a k : Nat}
theorem Dfr.refl : Dfr S h h := ⟨⟨rfl, rfl⟩, fun _ => rfl, fun _ _ => rfl, fun _ _ _ => ⟨rfl, rfl⟩⟩
theorem Dfr.trans (f : Dfr S h h1) (g : Dfr S h1 h2) : Dfr S h h2 :=
  ⟨⟨g.1.1.trans f.1.1, g.1.2.trans f.1.2⟩, fun a => (g.2.1 a).trans (f.2.1 a), fun a k => (g.2.2.1 a k).trans (f.2.2.1 a k), fun a k q => ⟨(g.2.2.2 a k q).1.trans (f.2.2.2 a k q).1, (g.2.2.2 a k q).2.trans (f.2.2.2 a k q).2⟩⟩
theorem Dfr.mono (f : Dfr S h h') (s : ∀ a k, S a k → T a k) : Dfr T h h' := ⟨f.1, f.2.1, f.2.2.1, fun a k q => f.2.2.2 a k (fun z => q ⟨z.1, s a k z.2⟩)⟩
theorem Dfr.uI {v : Int32} (h4 : 4 ≤ a) (s : S a k) : Dfr S h (uI h a k v) := by
  refine ⟨⟨rfl, rfl⟩, fun _ => rfl, fun _ _ => rfl, fun b j q => ⟨?_, rfl⟩⟩
  show (if b = a ∧ j = k then v else hI h b j) = _
  rw [if_neg (fun z => q (by rw [z.1, z.2]; exact ⟨h4, s⟩))]
theorem Dfr.uJ {v : Int64} (h4 : 4 ≤ a) (s : S a k) : Dfr S h (uJ h a k v) := by
  refine ⟨⟨rfl, rfl⟩, fun _ => rfl, fun _ _ => rfl, fun b j q => ⟨rfl, ?_⟩⟩
  show (if b = a ∧ j = k then v else hJ h b j) = _
  rw [if_neg (fun z => q (by rw [z.1, z.2]; exact ⟨h4, s⟩))]
theorem Dfr.uIr {f : Nat → Int32} (h4 : 4 ≤ a) (s : ∀ k, S a k) : Dfr S h (uIr h a f) := by
  refine ⟨⟨rfl, rfl⟩, fun _ => rfl, fun _ _ => rfl, fun b j q => ⟨?_, rfl⟩⟩
  show (if b = a then f j else hI h b j) = _
  rw [if_neg (fun z => q (by rw [z]; exact ⟨h4, s j⟩))]
theorem Dfr.uJr {f : Nat → Int64} (h4 : 4 ≤ a) (s : ∀ k, S a k) : Dfr S h (uJr h a f) := by
  refine ⟨⟨rfl, rfl⟩, fun _ => rfl, fun _ _ => rfl, fun b j q => ⟨rfl, ?_⟩⟩
  show (if b = a then f j else hJ h b j) = _
  rw [if_neg (fun z => q (by rw [z]; exact ⟨h4, s j⟩))]
theorem Dfr.I (f : Dfr S h h') (n : ¬ S a k) : hI h' a k = hI h a k := (f.2.2.2 a k (fun q => n q.2)).1
theorem Dfr.J (f : Dfr S h h') (n : ¬ S a k) : hJ h' a k = hJ h a k := (f.2.2.2 a k (fun q => n q.2)).2
theorem Dfr.R (f : Dfr S h h') (a k : Nat) : hR h' a k = hR h a k := f.2.2.1 a k
theorem Dfr.K (f : Dfr S h h') (a : Nat) : hK h' a = hK h a := f.2.1 a
theorem Dfr.fr (f : Dfr S h h') : Fr S h h' := ⟨f.1.1, f.1.2, f.2.1, fun a k q => ⟨f.I q, f.J q, f.R a k⟩⟩
theorem Dfr.lay (f : Dfr S h h') (hl : Lay h) : Lay h' := by
  obtain ⟨l1, l2, ⟨l3, l4, l5⟩, l6, l7, l8, l9⟩ := hl
  refine ⟨fun a a1 a2 => (f.K a).trans (l1 a a1 a2), fun q hq => (f.R _ _).trans (l2 q hq), ⟨(f.K 0).trans l3, (f.K 1).trans l4, (f.K 2).trans l5⟩, fun k hk => ?_, fun k hk => ?_, fun k hk => ?_, by rw [f.1.1]; exact l9⟩
  · rw [(f.2.2.2 0 k (fun q => absurd q.1 (by decide))).1]; exact l6 k hk
  · rw [(f.2.2.2 1 k (fun q => absurd q.1 (by decide))).1]; exact l7 k hk
  · rw [(f.2.2.2 2 k (fun q => absurd q.1 (by decide))).2]; exact l8 k hk
end FDS
/-! BITS of ints -/
theorem nI_bit (n i : Nat) (hi : i < 32) : (nI n).toBitVec.getLsbD i = n.testBit i := by
  show (BitVec.ofNat 32 n).getLsbD i = _
  rw [BitVec.getLsbD_ofNat]
  simp [hi]
theorem nI_or (a b : Nat) : nI a ||| nI b = nI (a ||| b) := by
  apply Int32.toBitVec_inj.mp
  apply BitVec.eq_of_getLsbD_eq
  intro i hi
  rw [Int32.toBitVec_or, BitVec.getLsbD_or, nI_bit _ _ hi, nI_bit _ _ hi, nI_bit _ _ hi, Nat.testBit_or]
theorem nI_and (a b : Nat) : nI a &&& nI b = nI (a &&& b) := by
  apply Int32.toBitVec_inj.mp
  apply BitVec.eq_of_getLsbD_eq
  intro i hi
  rw [Int32.toBitVec_and, BitVec.getLsbD_and, nI_bit _ _ hi, nI_bit _ _ hi, nI_bit _ _ hi, Nat.testBit_and]
theorem shl1 {i : Nat} (hi : i < 31) : ((1 : Int32) <<< (nI i &&& 31)) = nI (2 ^ i) := by
  have : ∀ i, i < 31 → ((1 : Int32) <<< (nI i &&& 31)) = nI (2 ^ i) := by decide +kernel
  exact this i hi
theorem msk_or (f : Nat → Bool) (n : Nat) : msk f (n + 1) = msk f n ||| (if f n then 2 ^ n else 0) := by
  apply Nat.eq_of_testBit_eq
  intro i
  rw [msk_bit, Nat.testBit_or, msk_bit]
  by_cases hf : f n
  · rw [if_pos hf, Nat.testBit_two_pow]
    by_cases e : n = i
    · subst e; simp [hf]
    · by_cases q : i < n
      · simp [q, show i < n + 1 by omega, e]
      · simp [q, show ¬ i < n + 1 by omega, e]
  · rw [if_neg hf]
    by_cases e : n = i
    · subst e; simp [hf]
    · by_cases q : i < n
      · simp [q, show i < n + 1 by omega]
      · simp [q, show ¬ i < n + 1 by omega]
/-- whether an int has a bit, as both programs ask for it -/
def hb (x : Int32) (i : Nat) : Bool := !decide (((x >>> (nI i &&& 31)) &&& 1) = 0)
theorem and1 (y : Int32) : y &&& 1 = 0 ∨ y &&& 1 = 1 := by
  have := pk_and y (m := 1) 1 (by decide)
  rw [this]
  rcases (show y.toBitVec.toNat % 2 ^ 1 = 0 ∨ y.toBitVec.toNat % 2 ^ 1 = 1 by omega) with q | q <;> rw [q]
  · exact Or.inl rfl
  · exact Or.inr rfl
theorem hb_1 (x : Int32) (i : Nat) : (((x >>> (nI i &&& 31)) &&& 1) = 1) ↔ hb x i = true := by
  unfold hb
  rcases and1 (x >>> (nI i &&& 31)) with q | q <;> rw [q] <;> decide
theorem hasBit_C (h : AH) (x : Int32) (i : Nat) : f_C_hasBit h x (nI i) = some (bI (hb x i)) := by
  unfold f_C_hasBit hb bI
  by_cases q : ((x >>> (nI i &&& 31)) &&& 1) = 0
  · simp [q]
  · simp [q]
theorem hb_nI {n i : Nat} (hn : n < 2 ^ 31) (hi : i < 31) : hb (nI n) i = n.testBit i := by
  unfold hb
  have := bit_0 hn hi
  by_cases q : n.testBit i = true
  · rw [q]
    have : ¬ ((nI n >>> (nI i &&& 31)) &&& 1) = 0 := fun z => by rw [this.mp z] at q; cases q
    simp [this]
  · have q' : n.testBit i = false := by simpa using q
    rw [q']
    simp [this.mpr q']
theorem bI0 (b : Bool) : (bI b = 0) ↔ b = false := by cases b <;> decide
theorem bI1 (b : Bool) : (bI b = 1) ↔ b = true := by cases b <;> decide
/-! FILLS AND COPIES -/
section FC
variable {h : AH} {ρ : Type}
theorem fillI (a : Nat) (v : Int32) {len : Nat} (h4 : 4 ≤ a) (hk : hK h a = (1, len)) (hn : len < 2 ^ 31) : OK (f_jA_fill_I h (some a) v) (fun h' => Dfr (fun b _ => b = a) h h' ∧ ∀ k, k < len → hI h' a k = v) := by
  have main : ∀ n (s : Nat × AH), (s.1 ≤ len ∧ Dfr (fun b _ => b = a) h s.2 ∧ ∀ k, k < s.1 → hI s.2 a k = v) → len - s.1 < n → OK (f_jA_fill_I_L5 a v (nI len) n (nI s.1) s.2) (fun h' => Dfr (fun b _ => b = a) h h' ∧ ∀ k, k < len → hI h' a k = v) := by
    refine loopU (fun n (s : Nat × AH) => f_jA_fill_I_L5 a v (nI len) n (nI s.1) s.2) _ (fun s => len - s.1) _ ?_
    intro n s ⟨h1, h2, h3⟩ ih
    obtain ⟨i, g⟩ := s
    dsimp only at h1 h2 h3 ih ⊢
    by_cases q : i < len
    · have k1 : hK g a = (1, len) := (h2.K a).trans hk
      have := ih (i + 1, uI g a i v) ⟨by dsimp only; omega, h2.trans (Dfr.uI h4 rfl), fun k hk' => ?_⟩ (by dsimp only; omega)
      · simp only [f_jA_fill_I_L5, nI_lt q hn, if_true, wI_n h4 k1 q hn, Option.bind_some, nI_1]
        exact this
      · dsimp only at hk' ⊢
        by_cases e : k = i
        · subst e; exact hI_eq
        · rw [hI_ne (by omega)]; exact h3 k (by omega)
    · have : i = len := by omega
      subst this
      refine OK.eq (a := g) ?_ ⟨h2, h3⟩
      simp only [f_jA_fill_I_L5, if_neg (show ¬ nI i < nI i from nI_nlt (Nat.le_refl _) hn)]
  have ha : alen 1 h a = some (nI len) := by unfold alen; rw [hk]; rfl
  simp only [f_jA_fill_I, Option.bind_some, ha]
  exact main FU (0, h) ⟨by simp, Dfr.refl, fun k hk => absurd hk (by simp)⟩ (by show len - 0 < FU; unfold FU; omega)
theorem fillJ (a : Nat) (v : Int64) {len : Nat} (h4 : 4 ≤ a) (hk : hK h a = (4, len)) (hn : len < 2 ^ 31) : OK (f_jA_fill_J h (some a) v) (fun h' => Dfr (fun b _ => b = a) h h' ∧ ∀ k, k < len → hJ h' a k = v) := by
  have main : ∀ n (s : Nat × AH), (s.1 ≤ len ∧ Dfr (fun b _ => b = a) h s.2 ∧ ∀ k, k < s.1 → hJ s.2 a k = v) → len - s.1 < n → OK (f_jA_fill_J_L6 a v (nI len) n (nI s.1) s.2) (fun h' => Dfr (fun b _ => b = a) h h' ∧ ∀ k, k < len → hJ h' a k = v) := by
    refine loopU (fun n (s : Nat × AH) => f_jA_fill_J_L6 a v (nI len) n (nI s.1) s.2) _ (fun s => len - s.1) _ ?_
    intro n s ⟨h1, h2, h3⟩ ih
    obtain ⟨i, g⟩ := s
    dsimp only at h1 h2 h3 ih ⊢
    by_cases q : i < len
    · have k1 : hK g a = (4, len) := (h2.K a).trans hk
      have := ih (i + 1, uJ g a i v) ⟨by dsimp only; omega, h2.trans (Dfr.uJ h4 rfl), fun k hk' => ?_⟩ (by dsimp only; omega)
      · simp only [f_jA_fill_J_L6, nI_lt q hn, if_true, wJ_n h4 k1 q hn, Option.bind_some, nI_1]
        exact this
      · dsimp only at hk' ⊢
        show (if a = a ∧ k = i then v else hJ g a k) = v
        by_cases e : k = i
        · rw [if_pos ⟨rfl, e⟩]
        · rw [if_neg (fun z => e z.2)]; exact h3 k (by omega)
    · have : i = len := by omega
      subst this
      refine OK.eq (a := g) ?_ ⟨h2, h3⟩
      simp only [f_jA_fill_J_L6, if_neg (show ¬ nI i < nI i from nI_nlt (Nat.le_refl _) hn)]
  have ha : alen 4 h a = some (nI len) := by unfold alen; rw [hk]; rfl
  simp only [f_jA_fill_J, Option.bind_some, ha]
  exact main FU (0, h) ⟨by simp, Dfr.refl, fun k hk => absurd hk (by simp)⟩ (by show len - 0 < FU; unfold FU; omega)
theorem copyI {a b la lb n : Nat} (ha : 4 ≤ a) (hb : 4 ≤ b) (ka : hK h a = (1, la)) (kb : hK h b = (1, lb)) (h1 : n ≤ la) (h2 : n ≤ lb) (hn : n < 2 ^ 31) : OK (cpI h a 0 b 0 (nI n)) (fun h' => Dfr (fun c k => c = b ∧ k < n) h h' ∧ ∀ k, k < n → hI h' b k = hI h a k) := by
  refine OK.eq (a := uIr h b (va_cpy (hI h a) (hI h b) 0 0 n)) ?_ ⟨?_, fun k hk => ?_⟩
  · unfold cpI
    rw [cl_nI hn]
    exact if_pos ⟨by rw [ka], by rw [kb], ha, hb, by decide, by decide, nI_n0 n hn, by rw [ka]; show 0 + n ≤ la; omega, by rw [kb]; show 0 + n ≤ lb; omega⟩
  · refine ⟨⟨rfl, rfl⟩, fun _ => rfl, fun _ _ => rfl, fun c j q => ⟨?_, rfl⟩⟩
    show (if c = b then va_cpy (hI h a) (hI h b) 0 0 n j else hI h c j) = _
    by_cases e : c = b
    · rw [if_pos e, pk_cpy_out (by by_cases z : j < n; exact absurd ⟨e ▸ hb, e, z⟩ q; omega), e]
    · rw [if_neg e]
  · show (if b = b then va_cpy (hI h a) (hI h b) 0 0 n k else hI h b k) = _
    rw [if_pos rfl, pk_cpy_in (by omega) (by omega)]
    congr 1
    omega
theorem copyJ {a b la lb n : Nat} (ha : 4 ≤ a) (hb : 4 ≤ b) (ka : hK h a = (4, la)) (kb : hK h b = (4, lb)) (h1 : n ≤ la) (h2 : n ≤ lb) (hn : n < 2 ^ 31) : OK (cpJ h a 0 b 0 (nI n)) (fun h' => Dfr (fun c k => c = b ∧ k < n) h h' ∧ ∀ k, k < n → hJ h' b k = hJ h a k) := by
  refine OK.eq (a := uJr h b (va_cpy (hJ h a) (hJ h b) 0 0 n)) ?_ ⟨?_, fun k hk => ?_⟩
  · unfold cpJ
    rw [cl_nI hn]
    exact if_pos ⟨by rw [ka], by rw [kb], ha, hb, by decide, by decide, nI_n0 n hn, by rw [ka]; show 0 + n ≤ la; omega, by rw [kb]; show 0 + n ≤ lb; omega⟩
  · refine ⟨⟨rfl, rfl⟩, fun _ => rfl, fun _ _ => rfl, fun c j q => ⟨rfl, ?_⟩⟩
    show (if c = b then va_cpy (hJ h a) (hJ h b) 0 0 n j else hJ h c j) = _
    by_cases e : c = b
    · rw [if_pos e, pk_cpy_out (by by_cases z : j < n; exact absurd ⟨e ▸ hb, e, z⟩ q; omega), e]
    · rw [if_neg e]
  · show (if b = b then va_cpy (hJ h a) (hJ h b) 0 0 n k else hJ h b k) = _
    rw [if_pos rfl, pk_cpy_in (by omega) (by omega)]
    congr 1
    omega
end FC
