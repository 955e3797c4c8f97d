/-! WORLDS as sets of numbers: the class's 64 words -/
theorem bx (k : Nat) {j : Nat} (f : Nat) (hj : j < 64) : (64 * k + j).testBit f = if f < 6 then j.testBit f else k.testBit (f - 6) :=
  Nat.testBit_two_pow_mul_add (i := 6) k hj f
theorem xr (k : Nat) {j : Nat} (f : Nat) (hj : j < 64) : (64 * k + j) ^^^ 2 ^ f = if f < 6 then 64 * k + (j ^^^ 2 ^ f) else 64 * (k ^^^ 2 ^ (f - 6)) + j := by
  apply Nat.eq_of_testBit_eq
  intro i
  rw [Nat.testBit_xor, bx k i hj, Nat.testBit_two_pow]
  by_cases hf : f < 6
  · have : j ^^^ 2 ^ f < 64 := Nat.xor_lt_two_pow (n := 6) hj (Nat.pow_lt_pow_right (by decide) hf)
    rw [if_pos hf, bx k i this, Nat.testBit_xor, Nat.testBit_two_pow]
    by_cases hi : i < 6
    · rw [if_pos hi, if_pos hi]
    · rw [if_neg hi, if_neg hi]
      simp [show f ≠ i by omega]
  · rw [if_neg hf, bx _ i hj, Nat.testBit_xor, Nat.testBit_two_pow]
    by_cases hi : i < 6
    · rw [if_pos hi, if_pos hi]; simp [show f ≠ i by omega]
    · rw [if_neg hi, if_neg hi]
      have : decide (f = i) = decide (f - 6 = i - 6) := by
        apply decide_eq_decide.mpr
        omega
      rw [this]
def hold (k f : Nat) : Int64 := if f < 6 then tWF f else if k.testBit (f - 6) = true then -1 else 0
theorem tWF_bit : ∀ f, f < 6 → ∀ j, j < 64 → (tWF f).toBitVec.getLsbD j = j.testBit f := by decide +kernel
theorem m1_bit : ∀ j, j < 64 → (-1 : Int64).toBitVec.getLsbD j = true := by decide +kernel
theorem hold_bit {k j f : Nat} (hj : j < 64) : (hold k f).toBitVec.getLsbD j = (64 * k + j).testBit f := by
  rw [bx k f hj]
  unfold hold
  by_cases q : f < 6
  · rw [if_pos q, if_pos q]; exact tWF_bit f q j hj
  · rw [if_neg q, if_neg q]
    by_cases z : k.testBit (f - 6) = true
    · rw [if_pos z, z]; exact m1_bit j hj
    · rw [if_neg z]
      have : k.testBit (f - 6) = false := by simpa using z
      rw [this]
      show (0#64).getLsbD j = false
      simp
theorem hold_m {k j f : Nat} (hj : j < 64) (b : Bool) : (if b = true then hold k f else hold k f ^^^ -1).toBitVec.getLsbD j = ((64 * k + j).testBit f == b) := by
  cases b with
  | true => rw [if_pos rfl, hold_bit hj]; cases (64 * k + j).testBit f <;> rfl
  | false =>
    rw [if_neg (by decide), Int64.toBitVec_xor, BitVec.getLsbD_xor, hold_bit hj, m1_bit j hj]
    cases (64 * k + j).testBit f <;> rfl
theorem sub6 {f : Nat} (h1 : ¬ f < 6) (h2 : f < 12) : nI f - 6 = nI (f - 6) := by
  have : ∀ f, f < 12 → ¬ f < 6 → nI f - 6 = nI (f - 6) := by decide
  exact this f h2 h1
def WO (h : AH) (o c : Nat) : Prop := hK h o = (111, 0) ∧ hK h c = (4, 64) ∧ hR h o 0 = some c ∧ 4 ≤ c
def WR (h : AH) (c : Nat) (S : Nat → Bool) : Prop := ∀ k, k < 64 → ∀ j, j < 64 → (hJ h c k).toBitVec.getLsbD j = S (64 * k + j)
def OnC (c : Nat) (a _k : Nat) : Prop := a = c
section WD
variable {h g : AH} {o c o' c' : Nat} {S S' : Nat → Bool} {T : Nat → Nat → Prop}
theorem hJ_u {h : AH} {a k b j : Nat} {v : Int64} : hJ (uJ h a k v) b j = if b = a ∧ j = k then v else hJ h b j := rfl
theorem WO.d (w : WO h o c) (f : Dfr T h g) : WO g o c := ⟨(f.K o).trans w.1, (f.K c).trans w.2.1, (f.R o 0).trans w.2.2.1, w.2.2.2⟩
theorem WR.d (w : WR h c S) (f : Dfr T h g) (n : ∀ k, ¬ T c k) : WR g c S := fun k hk j hj => by rw [f.J (n k)]; exact w k hk j hj
theorem WR.congr (w : WR h c S) (e : ∀ w, w < 4096 → S w = S' w) : WR h c S' := fun k hk j hj => by rw [w k hk j hj]; exact e _ (by omega)
theorem Lay.wo (hl : Lay h) {t : Nat} (ht : t < 31) : WO h (139 + 2 * t) (140 + 2 * t) := ⟨(hl.wrld ht).1, (hl.wrld ht).2.1, (hl.wrld ht).2.2.2, by omega⟩
theorem Lay.wc (hl : Lay h) : WO h 137 138 := ⟨kk137 hl, kk138 hl, by simp only [LR hl], by decide⟩
theorem holders_C (hl : Lay h) {k f : Nat} (hk : k < 64) (hf : f < 12) : f_Wo_holders h (nI k) (nI f) = some (hold k f) := by
  unfold f_Wo_holders hold
  by_cases q : f < 6
  · have q' : nI f < 6 := nI_lt (b := 6) q (by decide)
    rw [if_pos q', if_pos q, rJ_n hl.2.2.1.2.2 q (by decide), hl.2.2.2.2.2.1 f q]
    rfl
  · have q' : ¬ nI f < 6 := nI_nlt (b := 6) (by omega) (by omega)
    rw [if_neg q', if_neg q, sub6 q hf, hasBit_C, hb_nI (by omega) (by omega)]
    cases k.testBit (f - 6) <;> simp [bI]
theorem keep_C (hl : Lay h) (w : WO h o c) (wr : WR h c S) {f : Nat} (hf : f < 12) (b : Bool) : OK (f_Wo_keep h o (nI f) (bI b)) (fun h' => Dfr (OnC c) h h' ∧ WR h' c (fun w => S w && (w.testBit f == b))) := by
  have main : ∀ n (s : Nat × AH), (s.1 ≤ 64 ∧ Dfr (OnC c) h s.2 ∧ ∀ k, k < 64 → ∀ j, j < 64 → (hJ s.2 c k).toBitVec.getLsbD j = if k < s.1 then S (64 * k + j) && ((64 * k + j).testBit f == b) else S (64 * k + j)) → 64 - s.1 < n → OK (f_Wo_keep_L2 o (nI f) (bI b) n (nI s.1) s.2) (fun h' => Dfr (OnC c) h h' ∧ WR h' c (fun w => S w && (w.testBit f == b))) := by
    refine loopU (fun n (s : Nat × AH) => f_Wo_keep_L2 o (nI f) (bI b) n (nI s.1) s.2) _ (fun s => 64 - s.1) _ ?_
    intro n s ⟨h1, h2, h3⟩ ih
    obtain ⟨i, g⟩ := s
    dsimp only at h1 h2 h3 ih ⊢
    have wg := w.d h2
    have lg := h2.lay hl
    by_cases q : i < 64
    · have qi : nI i < 64 := nI_lt (b := 64) q (by decide)
      have e : (if bI b = 0 then (f_Wo_holders g (nI i) (nI f)).bind fun x4 => some (x4 ^^^ (-1 : Int64)) else (f_Wo_holders g (nI i) (nI f)).bind fun x5 => some x5) = some (if b = true then hold i f else hold i f ^^^ -1) := by
        rw [holders_C lg q hf]; cases b <;> rfl
      simp only [f_Wo_keep_L2, qi, if_true, gR_n (c := 11) wg.1, wg.2.2.1, Option.bind_some, rJ_n wg.2.1 q (by decide), e, wJ_n wg.2.2.2 wg.2.1 q (by decide), nI_1]
      refine ih (i + 1, uJ g c i _) ⟨by dsimp only; omega, h2.trans (Dfr.uJ wg.2.2.2 rfl), fun k hk j hj => ?_⟩ (by dsimp only; omega)
      dsimp only
      rw [hJ_u]
      by_cases ek : k = i
      · subst ek
        rw [if_pos ⟨rfl, rfl⟩, Int64.toBitVec_and, BitVec.getLsbD_and, hold_m hj, h3 k hk j hj, if_neg (by omega), if_pos (by omega)]
      · rw [if_neg (fun z => ek z.2), h3 k hk j hj]
        by_cases z : k < i
        · rw [if_pos z, if_pos (by omega)]
        · rw [if_neg z, if_neg (by omega)]
    · have : i = 64 := by omega
      subst this
      simp only [f_Wo_keep_L2, show ¬ nI 64 < 64 by decide, if_false]
      exact OK.mk ⟨h2, fun k hk j hj => by rw [h3 k hk j hj, if_pos hk]⟩
  exact main FU (0, h) ⟨by simp, Dfr.refl, fun k hk j hj => by rw [if_neg (by simp)]; exact wr k hk j hj⟩ (by show 64 - 0 < FU; unfold FU; omega)
theorem sh_l (y : Int64) {f : Nat} (hf : f < 6) : (xlshl y ((1 : Int32) <<< (nI f &&& 31))).toBitVec = y.toBitVec <<< (2 ^ f) := by
  have hs : (((((1 : Int32) <<< (nI f &&& 31)).toInt64 &&& 63).toBitVec).smod 64#64).toNat = 2 ^ f := by
    have : ∀ f, f < 6 → (((((1 : Int32) <<< (nI f &&& 31)).toInt64 &&& 63).toBitVec).smod 64#64).toNat = 2 ^ f := by decide
    exact this f hf
  show (y <<< (((1 : Int32) <<< (nI f &&& 31)).toInt64 &&& 63)).toBitVec = _
  rw [Int64.toBitVec_shiftLeft]
  show y.toBitVec <<< (BitVec.toNat _) = _
  exact congrArg _ hs
theorem sh_r (y : Int64) {f : Nat} (hf : f < 6) : (xlushr y ((1 : Int32) <<< (nI f &&& 31))).toBitVec = y.toBitVec >>> (2 ^ f) := by
  have hs : (((((1 : Int32) <<< (nI f &&& 31)).toInt64.toUInt64 &&& Int64.toUInt64 63).toBitVec) % 64#64).toNat = 2 ^ f := by
    have : ∀ f, f < 6 → (((((1 : Int32) <<< (nI f &&& 31)).toInt64.toUInt64 &&& Int64.toUInt64 63).toBitVec) % 64#64).toNat = 2 ^ f := by decide
    exact this f hf
  show (y.toUInt64 >>> (((1 : Int32) <<< (nI f &&& 31)).toInt64.toUInt64 &&& Int64.toUInt64 63)).toBitVec = _
  rw [UInt64.toBitVec_shiftRight]
  exact congrArg (fun n => y.toBitVec >>> n) hs
theorem mw_C (hl : Lay h) (x : Int64) {f : Nat} (hf : f < 6) (b : Bool) : ∃ y, f_Wo_movedWithin h x (nI f) (bI b) = some y ∧ ∀ j, j < 64 → y.toBitVec.getLsbD j = ((j.testBit f == b) && (x.toBitVec.getLsbD j || x.toBitVec.getLsbD (j ^^^ 2 ^ f))) := by
  have r : rJ h 2 (nI f) = some (tWF f) := by rw [rJ_n hl.2.2.1.2.2 hf (by decide), hl.2.2.2.2.2.1 f hf]
  have fa : ∀ f, f < 6 → ∀ j, j < 64 → j.testBit f = true → 2 ^ f ≤ j ∧ j - 2 ^ f = j ^^^ 2 ^ f ∧ (j - 2 ^ f).testBit f = false ∧ (j + 2 ^ f).testBit f = false := by decide +kernel
  have fb : ∀ f, f < 6 → ∀ j, j < 64 → j.testBit f = false → j + 2 ^ f = j ^^^ 2 ^ f ∧ j + 2 ^ f < 64 ∧ (j + 2 ^ f).testBit f = true ∧ (¬ 2 ^ f ≤ j ∨ (j - 2 ^ f).testBit f = true) := by decide +kernel
  have mb := tWF_bit f hf
  cases b with
  | true =>
    refine ⟨_, by simp only [f_Wo_movedWithin, r, Option.bind_some, bI, if_true, show ¬ ((1 : Int32) = 0) by decide, if_false]; rfl, fun j hj => ?_⟩
    have q1 := fa f hf j hj
    have q2 := fb f hf j hj
    have jl : j - 2 ^ f < 64 := Nat.lt_of_le_of_lt (Nat.sub_le _ _) hj
    rw [Int64.toBitVec_or, BitVec.getLsbD_or, sh_l _ hf, BitVec.getLsbD_shiftLeft, Int64.toBitVec_and, Int64.toBitVec_and, Int64.toBitVec_xor, BitVec.getLsbD_and, BitVec.getLsbD_and, BitVec.getLsbD_xor, mb j hj]
    cases z : j.testBit f with
    | true =>
      obtain ⟨a1, a2, a3, a4⟩ := q1 z
      rw [mb _ jl, m1_bit _ jl, a3, a2]
      simp [hj, show ¬ j < 2 ^ f by omega]
    | false =>
      obtain ⟨a1, a2, a3, a4⟩ := q2 z
      by_cases l : j < 2 ^ f
      · simp [l]
      · rcases a4 with a4 | a4
        · exact absurd (Nat.le_of_not_lt l) a4
        · rw [mb _ jl, m1_bit _ jl, a4]; simp
  | false =>
    refine ⟨_, by simp only [f_Wo_movedWithin, r, Option.bind_some, bI, Bool.false_eq_true, if_false, if_true]; rfl, fun j hj => ?_⟩
    have q1 := fa f hf j hj
    have q2 := fb f hf j hj
    have jl : j - 2 ^ f < 64 := Nat.lt_of_le_of_lt (Nat.sub_le _ _) hj
    rw [Int64.toBitVec_or, BitVec.getLsbD_or, sh_r _ hf, BitVec.getLsbD_ushiftRight, Int64.toBitVec_and, Int64.toBitVec_and, Int64.toBitVec_xor, BitVec.getLsbD_and, BitVec.getLsbD_and, BitVec.getLsbD_xor, mb j hj, m1_bit j hj, Nat.add_comm (2 ^ f) j]
    cases z : j.testBit f with
    | true =>
      obtain ⟨a1, a2, a3, a4⟩ := q1 z
      by_cases l : j + 2 ^ f < 64
      · rw [mb _ l, a4]; simp
      · simp [BitVec.getLsbD_of_ge _ _ (show 64 ≤ j + 2 ^ f by omega)]
    | false =>
      obtain ⟨a1, a2, a3, a4⟩ := q2 z
      rw [mb _ a2, a3, a1]
      simp
theorem move_C (hl : Lay h) (w : WO h o c) (wr : WR h c S) {f : Nat} (hf : f < 12) (b : Bool) : OK (f_Wo_move h o (nI f) (bI b)) (fun h' => Dfr (OnC c) h h' ∧ WR h' c (fun w => (w.testBit f == b) && (S w || S (w ^^^ 2 ^ f)))) := by
  by_cases f6 : f < 6
  · have q6 : nI f < 6 := nI_lt (b := 6) f6 (by decide)
    have main : ∀ n (s : Nat × AH), (s.1 ≤ 64 ∧ Dfr (OnC c) h s.2 ∧ ∀ k, k < 64 → ∀ j, j < 64 → (hJ s.2 c k).toBitVec.getLsbD j = if k < s.1 then ((64 * k + j).testBit f == b) && (S (64 * k + j) || S ((64 * k + j) ^^^ 2 ^ f)) else S (64 * k + j)) → 64 - s.1 < n → OK (f_Wo_move_L2 o (nI f) (bI b) n (nI s.1) s.2) (fun h' => Dfr (OnC c) h h' ∧ WR h' c (fun w => (w.testBit f == b) && (S w || S (w ^^^ 2 ^ f)))) := by
      refine loopU (fun n (s : Nat × AH) => f_Wo_move_L2 o (nI f) (bI b) n (nI s.1) s.2) _ (fun s => 64 - s.1) _ ?_
      intro n s ⟨h1, h2, h3⟩ ih
      obtain ⟨i, g⟩ := s
      dsimp only at h1 h2 h3 ih ⊢
      have wg := w.d h2
      have lg := h2.lay hl
      by_cases q : i < 64
      · have qi : nI i < 64 := nI_lt (b := 64) q (by decide)
        obtain ⟨y, e, ey⟩ := mw_C lg (hJ g c i) f6 b
        simp only [f_Wo_move_L2, qi, q6, if_true, gR_n (c := 11) wg.1, wg.2.2.1, Option.bind_some, rJ_n wg.2.1 q (by decide), e, wJ_n wg.2.2.2 wg.2.1 q (by decide), nI_1]
        refine ih (i + 1, uJ g c i _) ⟨by dsimp only; omega, h2.trans (Dfr.uJ wg.2.2.2 rfl), fun k hk j hj => ?_⟩ (by dsimp only; omega)
        dsimp only
        rw [hJ_u]
        by_cases ek : k = i
        · subst ek
          have hj' : j ^^^ 2 ^ f < 64 := Nat.xor_lt_two_pow (n := 6) hj (Nat.pow_lt_pow_right (by decide) f6)
          rw [if_pos ⟨rfl, rfl⟩, if_pos (by omega), ey j hj, h3 k hk j hj, h3 k hk _ hj', if_neg (by omega), if_neg (by omega), bx k f hj, if_pos f6, xr k f hj, if_pos f6]
        · rw [if_neg (fun z => ek z.2), h3 k hk j hj]
          by_cases z : k < i
          · rw [if_pos z, if_pos (by omega)]
          · rw [if_neg z, if_neg (by omega)]
      · have : i = 64 := by omega
        subst this
        simp only [f_Wo_move_L2, show ¬ nI 64 < 64 by decide, if_false]
        exact OK.mk ⟨h2, fun k hk j hj => by rw [h3 k hk j hj, if_pos hk]⟩
    exact main FU (0, h) ⟨by simp, Dfr.refl, fun k hk j hj => by rw [if_neg (by simp)]; exact wr k hk j hj⟩ (by show 64 - 0 < FU; unfold FU; omega)
  · have q6 : ¬ nI f < 6 := nI_nlt (b := 6) (by omega) (by omega)
    obtain ⟨e, he⟩ : ∃ e, e = f - 6 := ⟨_, rfl⟩
    have e6 : e < 6 := by omega
    have fin : ∀ e, e < 6 → ∀ k, k < 64 → (k ^^^ 2 ^ e) < 64 ∧ (k ^^^ 2 ^ e).testBit e = !k.testBit e ∧ (k ^^^ 2 ^ e) ^^^ 2 ^ e = k ∧ nI k ^^^ ((1 : Int32) <<< (nI e &&& 31)) = nI (k ^^^ 2 ^ e) ∧ ¬ (k ^^^ 2 ^ e) = k := by decide +kernel
    have main : ∀ n (s : Nat × AH), (s.1 ≤ 64 ∧ Dfr (OnC c) h s.2 ∧ ∀ k, k < 64 → ∀ j, j < 64 → (hJ s.2 c k).toBitVec.getLsbD j = if (if k.testBit e = b then k else k ^^^ 2 ^ e) < s.1 then (k.testBit e == b) && (S (64 * k + j) || S (64 * (k ^^^ 2 ^ e) + j)) else S (64 * k + j)) → 64 - s.1 < n → OK (f_Wo_move_L2 o (nI f) (bI b) n (nI s.1) s.2) (fun h' => Dfr (OnC c) h h' ∧ WR h' c (fun w => (w.testBit f == b) && (S w || S (w ^^^ 2 ^ f)))) := by
      refine loopU (fun n (s : Nat × AH) => f_Wo_move_L2 o (nI f) (bI b) n (nI s.1) s.2) _ (fun s => 64 - s.1) _ ?_
      intro n s ⟨h1, h2, h3⟩ ih
      obtain ⟨i, g⟩ := s
      dsimp only at h1 h2 h3 ih ⊢
      have wg := w.d h2
      have lg := h2.lay hl
      by_cases q : i < 64
      · have qi : nI i < 64 := nI_lt (b := 64) q (by decide)
        obtain ⟨p1, p2, p3, p4, p5⟩ := fin e e6 i q
        have hbi : f_C_hasBit g (nI i) (nI f - 6) = some (bI (i.testBit e)) := by rw [sub6 f6 hf, ← he, hasBit_C, hb_nI (by omega) (by omega)]
        have bb : ∀ x : Bool, (bI x = bI b) ↔ x = b := by cases b <;> decide
        by_cases ib : i.testBit e = b
        · have ib' : bI (i.testBit e) = bI b := by rw [ib]
          have g1 : ∀ v, WO (uJ g c i v) o c := fun v => wg.d (Dfr.uJ (S := OnC c) wg.2.2.2 rfl)
          simp only [f_Wo_move_L2, qi, q6, if_true, if_false, hbi, ib', Option.bind_some]
          rw [sub6 f6 hf, ← he, p4]
          simp only [gR_n (c := 11) wg.1, wg.2.2.1, Option.bind_some, rJ_n wg.2.1 q (by decide), rJ_n wg.2.1 p1 (by decide), wJ_n wg.2.2.2 wg.2.1 q (by decide), gR_n (c := 11) (g1 _).1, (g1 _).2.2.1, wJ_n wg.2.2.2 (g1 _).2.1 p1 (by decide), nI_1]
          refine ih (i + 1, uJ (uJ g c i _) c (i ^^^ 2 ^ e) 0) ⟨by dsimp only; omega, (h2.trans (Dfr.uJ wg.2.2.2 rfl)).trans (Dfr.uJ wg.2.2.2 rfl), fun k hk j hj => ?_⟩ (by dsimp only; omega)
          dsimp only
          obtain ⟨r1, r2, r3, r4, r5⟩ := fin e e6 k hk
          rw [hJ_u, hJ_u]
          by_cases ep : k = i ^^^ 2 ^ e
          · rw [if_pos ⟨rfl, ep⟩]
            have kb : ¬ k.testBit e = b := by rw [ep, p2, ib]; cases b <;> decide
            have kb' : (k.testBit e == b) = false := by simpa using kb
            rw [if_neg kb, kb', ep, p3, if_pos (by omega), Bool.false_and]
            show (0#64).getLsbD j = false
            simp
          · rw [if_neg (fun z => ep z.2)]
            by_cases ek : k = i
            · subst ek
              have h3p := h3 _ p1 j hj
              rw [if_neg (show ¬ (k ^^^ 2 ^ e).testBit e = b by rw [p2, ib]; cases b <;> decide), p3, if_neg (by omega)] at h3p
              have h3k := h3 k hk j hj
              rw [if_pos ib, if_neg (by omega)] at h3k
              rw [if_pos ⟨rfl, rfl⟩, if_pos ib, if_pos (by omega), Int64.toBitVec_or, BitVec.getLsbD_or, h3k, h3p, ib]
              simp
            · rw [if_neg (fun z => ek z.2), h3 k hk j hj]
              have ne : ¬ (if k.testBit e = b then k else k ^^^ 2 ^ e) = i := by
                by_cases z : k.testBit e = b
                · rw [if_pos z]; exact ek
                · rw [if_neg z]; intro y; exact ep (by rw [← y, r3])
              by_cases z : (if k.testBit e = b then k else k ^^^ 2 ^ e) < i
              · rw [if_pos z, if_pos (by omega)]
              · rw [if_neg z, if_neg (by omega)]
        · have ib' : ¬ bI (i.testBit e) = bI b := fun z => ib ((bb _).mp z)
          simp only [f_Wo_move_L2, qi, q6, if_true, if_false, hbi, ib', Option.bind_some, nI_1]
          refine ih (i + 1, g) ⟨by dsimp only; omega, h2, fun k hk j hj => ?_⟩ (by dsimp only; omega)
          dsimp only
          obtain ⟨r1, r2, r3, r4, r5⟩ := fin e e6 k hk
          rw [h3 k hk j hj]
          have ne : ¬ (if k.testBit e = b then k else k ^^^ 2 ^ e) = i := by
            by_cases z : k.testBit e = b
            · rw [if_pos z]; intro y; exact ib (by rw [← y]; exact z)
            · rw [if_neg z]; intro y; exact ib (by rw [← y, r2]; cases b <;> revert z <;> cases k.testBit e <;> decide)
          by_cases z : (if k.testBit e = b then k else k ^^^ 2 ^ e) < i
          · rw [if_pos z, if_pos (by omega)]
          · rw [if_neg z, if_neg (by omega)]
      · have : i = 64 := by omega
        subst this
        simp only [f_Wo_move_L2, show ¬ nI 64 < 64 by decide, if_false]
        refine OK.mk ⟨h2, fun k hk j hj => ?_⟩
        obtain ⟨r1, r2, r3, r4, r5⟩ := fin e e6 k hk
        dsimp only
        rw [h3 k hk j hj, if_pos (by split <;> omega), bx k f hj, if_neg f6, xr k f hj, if_neg f6, ← he]
    exact main FU (0, h) ⟨by simp, Dfr.refl, fun k hk j hj => by rw [if_neg (by simp)]; exact wr k hk j hj⟩ (by show 64 - 0 < FU; unfold FU; omega)
theorem add_C (w : WO h o c) (w' : WO h o' c') (hc : c' ≠ c) (wr : WR h c S) (wr' : WR h c' S') : OK (f_Wo_add h o (some o')) (fun h' => Dfr (OnC c) h h' ∧ WR h' c (fun w => S w || S' w)) := by
  have main : ∀ n (s : Nat × AH), (s.1 ≤ 64 ∧ Dfr (OnC c) h s.2 ∧ ∀ k, k < 64 → ∀ j, j < 64 → (hJ s.2 c k).toBitVec.getLsbD j = if k < s.1 then S (64 * k + j) || S' (64 * k + j) else S (64 * k + j)) → 64 - s.1 < n → OK (f_Wo_add_L2 o (some o') n (nI s.1) s.2) (fun h' => Dfr (OnC c) h h' ∧ WR h' c (fun w => S w || S' w)) := by
    refine loopU (fun n (s : Nat × AH) => f_Wo_add_L2 o (some o') n (nI s.1) s.2) _ (fun s => 64 - s.1) _ ?_
    intro n s ⟨h1, h2, h3⟩ ih
    obtain ⟨i, g⟩ := s
    dsimp only at h1 h2 h3 ih ⊢
    have wg := w.d h2
    have wg' := w'.d h2
    have wrg : WR g c' S' := wr'.d h2 (fun k => hc)
    by_cases q : i < 64
    · have qi : nI i < 64 := nI_lt (b := 64) q (by decide)
      simp only [f_Wo_add_L2, qi, if_true, gR_n (c := 11) wg.1, gR_n (c := 11) wg'.1, wg.2.2.1, wg'.2.2.1, Option.bind_some, rJ_n wg.2.1 q (by decide), rJ_n wg'.2.1 q (by decide), wJ_n wg.2.2.2 wg.2.1 q (by decide), nI_1]
      refine ih (i + 1, uJ g c i _) ⟨by dsimp only; omega, h2.trans (Dfr.uJ wg.2.2.2 rfl), fun k hk j hj => ?_⟩ (by dsimp only; omega)
      dsimp only
      rw [hJ_u]
      by_cases ek : k = i
      · subst ek
        rw [if_pos ⟨rfl, rfl⟩, if_pos (by omega), Int64.toBitVec_or, BitVec.getLsbD_or, h3 k hk j hj, if_neg (by omega), wrg k hk j hj]
      · rw [if_neg (fun z => ek z.2), h3 k hk j hj]
        by_cases z : k < i
        · rw [if_pos z, if_pos (by omega)]
        · rw [if_neg z, if_neg (by omega)]
    · have : i = 64 := by omega
      subst this
      simp only [f_Wo_add_L2, show ¬ nI 64 < 64 by decide, if_false]
      exact OK.mk ⟨h2, fun k hk j hj => by rw [h3 k hk j hj, if_pos hk]⟩
  exact main FU (0, h) ⟨by simp, Dfr.refl, fun k hk j hj => by rw [if_neg (by simp)]; exact wr k hk j hj⟩ (by show 64 - 0 < FU; unfold FU; omega)
theorem become_W (w : WO h o c) (w' : WO h o' c') (wr' : WR h c' S') : OK (f_Wo_become h o (some o')) (fun h' => Dfr (OnC c) h h' ∧ WR h' c S') := by
  obtain ⟨g, e, f, v⟩ := copyJ (n := 64) w'.2.2.2 w.2.2.2 w'.2.1 w.2.1 (Nat.le_refl _) (Nat.le_refl _) (by decide)
  simp only [f_Wo_become, Option.bind_some, gR_n (c := 11) w.1, gR_n (c := 11) w'.1, w.2.2.1, w'.2.2.1]
  rw [show cpJ h c' 0 c 0 64 = some g from e]
  exact OK.mk ⟨f.mono (fun a k z => z.1), fun k hk j hj => by rw [v k hk]; exact wr' k hk j hj⟩
theorem only_W (w : WO h o c) {x : Nat} (hx : x < 4096) : OK (f_Wo_becomeOnly h o (nI x)) (fun h' => Dfr (OnC c) h h' ∧ WR h' c (fun w => decide (w = x))) := by
  obtain ⟨g, e, f, v⟩ := fillJ (h := h) c 0 w.2.2.2 w.2.1 (by decide)
  have wg := w.d f
  have i1 : ((nI x >>> ((6 : Int32) &&& 31)) &&& (63 : Int32)) = nI (x / 64) := by
    rw [pk_shrN (show x < 2 ^ 31 by omega) _ 6 (by decide), pk_andN (show x / 2 ^ 6 < 2 ^ 32 by omega) 6 (by decide)]
    congr 1
    omega
  have i2 : (xlshl (1 : Int64) (nI x &&& (63 : Int32))).toBitVec = BitVec.ofNat 64 (2 ^ (x % 64)) := by
    rw [pk_andN (show x < 2 ^ 32 by omega) 6 (by decide)]
    have : ∀ m, m < 64 → (xlshl (1 : Int64) (nI m)).toBitVec = BitVec.ofNat 64 (2 ^ m) := by decide +kernel
    exact this _ (Nat.mod_lt _ (by decide))
  simp only [f_Wo_becomeOnly, gR_n (c := 11) w.1, w.2.2.1, Option.bind_some, e, gR_n (c := 11) wg.1, wg.2.2.1, i1, wJ_n wg.2.2.2 wg.2.1 (show x / 64 < 64 by omega) (by decide)]
  refine OK.mk ⟨f.trans (Dfr.uJ wg.2.2.2 rfl), fun k hk j hj => ?_⟩
  rw [hJ_u]
  by_cases ek : k = x / 64
  · rw [if_pos ⟨rfl, ek⟩, i2, BitVec.getLsbD_ofNat, Nat.testBit_two_pow]
    simp [hj]
    omega
  · rw [if_neg (fun z => ek z.2), v k hk]
    have : ¬ 64 * k + j = x := by omega
    simp [this]
end WD
