/-! WHAT A CALL MAKES OF WORLDS -/
def kp (nd w : Nat) : Nat → Bool
  | 0 => true
  | i + 1 => kp nd w i && (!nd.testBit i || w.testBit i)
def mv (gv tk : Nat) (S : Nat → Bool) : Nat → Nat → Bool
  | 0 => S
  | i + 1 => if gv.testBit i = true then fun w => (w.testBit i == true) && (mv gv tk S i w || mv gv tk S i (w ^^^ 2 ^ i)) else if tk.testBit i = true then fun w => (w.testBit i == false) && (mv gv tk S i w || mv gv tk S i (w ^^^ 2 ^ i)) else mv gv tk S i
def Mt (gv tk i v w : Nat) : Prop := ∀ b, b < 12 → w.testBit b = if b < i then gv.testBit b || (v.testBit b && !tk.testBit b) else v.testBit b
theorem bits12 {a b : Nat} (ha : a < 4096) (hb : b < 4096) (e : ∀ i, i < 12 → a.testBit i = b.testBit i) : a = b := by
  apply Nat.eq_of_testBit_eq
  intro i
  by_cases hi : i < 12
  · exact e i hi
  · rw [Nat.testBit_lt_two_pow (Nat.lt_of_lt_of_le ha (Nat.pow_le_pow_right (n := 2) (by decide) (show 12 ≤ i by omega))), Nat.testBit_lt_two_pow (Nat.lt_of_lt_of_le hb (Nat.pow_le_pow_right (n := 2) (by decide) (show 12 ≤ i by omega)))]
theorem kp_iff (nd w : Nat) : ∀ n, kp nd w n = true ↔ ∀ i, i < n → nd.testBit i = true → w.testBit i = true
  | 0 => by simp [kp]
  | n + 1 => by
    rw [kp, Bool.and_eq_true, kp_iff nd w n]
    constructor
    · intro ⟨h1, h2⟩ i hi q
      by_cases e : i = n
      · subst e; rw [q] at h2; simpa using h2
      · exact h1 i (by omega) q
    · intro hh
      refine ⟨fun i hi => hh i (by omega), ?_⟩
      cases q : nd.testBit n with
      | false => rfl
      | true => rw [hh n (by omega) q]; rfl
theorem kp_and {nd w : Nat} (hn : nd < 4096) : kp nd w 12 = decide (nd &&& w = nd) := by
  apply Bool.eq_iff_iff.mpr
  rw [kp_iff, decide_eq_true_iff]
  constructor
  · intro hh
    refine bits12 (Nat.lt_of_le_of_lt Nat.and_le_left hn) hn (fun i hi => ?_)
    rw [Nat.testBit_and]
    cases q : nd.testBit i with
    | false => rfl
    | true => rw [hh i hi q]; rfl
  · intro e i hi q
    have := congrArg (fun x => x.testBit i) e
    simp only [Nat.testBit_and, q, Bool.true_and] at this
    exact this
theorem mt_step {S : Nat → Bool} {gv tk i : Nat} (hi : i < 12) (c : Bool) (hc : ∀ x : Bool, (gv.testBit i || (x && !tk.testBit i)) = c) (ih : ∀ w, w < 4096 → (mv gv tk S i w = true ↔ ∃ v, v < 4096 ∧ S v = true ∧ Mt gv tk i v w)) {w : Nat} (hw : w < 4096) : ((w.testBit i == c) && (mv gv tk S i w || mv gv tk S i (w ^^^ 2 ^ i))) = true ↔ ∃ v, v < 4096 ∧ S v = true ∧ Mt gv tk (i + 1) v w := by
  have hx : w ^^^ 2 ^ i < 4096 := Nat.xor_lt_two_pow (n := 12) hw (Nat.pow_lt_pow_right (by decide) hi)
  have xb : ∀ b, (w ^^^ 2 ^ i).testBit b = (w.testBit b ^^ decide (i = b)) := fun b => by rw [Nat.testBit_xor, Nat.testBit_two_pow]
  rw [Bool.and_eq_true, Bool.or_eq_true, ih w hw, ih _ hx, beq_iff_eq]
  constructor
  · rintro ⟨h1, ⟨v, v1, v2, v3⟩ | ⟨v, v1, v2, v3⟩⟩
    · refine ⟨v, v1, v2, fun b hb => ?_⟩
      have := v3 b hb
      by_cases e : b = i
      · subst e; rw [if_pos (by omega), hc, h1]
      · rw [this]
        by_cases z : b < i
        · rw [if_pos z, if_pos (by omega)]
        · rw [if_neg z, if_neg (by omega)]
    · refine ⟨v, v1, v2, fun b hb => ?_⟩
      have := v3 b hb
      by_cases e : b = i
      · subst e; rw [if_pos (by omega), hc, h1]
      · rw [xb, decide_eq_false (show ¬ i = b from fun z => e z.symm), Bool.xor_false] at this
        rw [this]
        by_cases z : b < i
        · rw [if_pos z, if_pos (by omega)]
        · rw [if_neg z, if_neg (by omega)]
  · rintro ⟨v, v1, v2, v3⟩
    have wi : w.testBit i = c := by rw [v3 i hi, if_pos (by omega), hc]
    refine ⟨wi, ?_⟩
    by_cases e : v.testBit i = c
    · refine Or.inl ⟨v, v1, v2, fun b hb => ?_⟩
      by_cases z : b = i
      · subst z; rw [if_neg (by omega), wi, e]
      · rw [v3 b hb]
        by_cases y : b < i
        · rw [if_pos y, if_pos (by omega)]
        · rw [if_neg y, if_neg (by omega)]
    · refine Or.inr ⟨v, v1, v2, fun b hb => ?_⟩
      rw [xb]
      by_cases z : b = i
      · subst z
        rw [if_neg (by omega), wi, decide_eq_true rfl]
        revert e
        cases c <;> cases v.testBit b <;> decide
      · rw [decide_eq_false (show ¬ i = b from fun y => z y.symm), Bool.xor_false, v3 b hb]
        by_cases y : b < i
        · rw [if_pos y, if_pos (by omega)]
        · rw [if_neg y, if_neg (by omega)]
theorem mv_iff (gv tk : Nat) (S : Nat → Bool) : ∀ i, i ≤ 12 → ∀ w, w < 4096 → (mv gv tk S i w = true ↔ ∃ v, v < 4096 ∧ S v = true ∧ Mt gv tk i v w) := by
  intro i
  induction i with
  | zero =>
    intro _ w hw
    constructor
    · intro q; exact ⟨w, hw, q, fun b _ => by rw [if_neg (by omega)]⟩
    · rintro ⟨v, v1, v2, v3⟩
      have : w = v := bits12 hw v1 (fun b hb => by rw [v3 b hb, if_neg (by omega)])
      rw [this]; exact v2
  | succ i ih =>
    intro hi w hw
    have ih' := ih (by omega)
    unfold mv
    by_cases q1 : gv.testBit i = true
    · rw [if_pos q1]
      exact mt_step (by omega) true (fun x => by rw [q1]; rfl) ih' hw
    · rw [if_neg q1]
      have q1' : gv.testBit i = false := by simpa using q1
      by_cases q2 : tk.testBit i = true
      · rw [if_pos q2]
        exact mt_step (by omega) false (fun x => by rw [q1', q2]; cases x <;> rfl) ih' hw
      · rw [if_neg q2, ih' w hw]
        have q2' : tk.testBit i = false := by simpa using q2
        have e : ∀ v, Mt gv tk i v w ↔ Mt gv tk (i + 1) v w := by
          intro v
          unfold Mt
          have : ∀ b, (if b < i then gv.testBit b || (v.testBit b && !tk.testBit b) else v.testBit b) = (if b < i + 1 then gv.testBit b || (v.testBit b && !tk.testBit b) else v.testBit b) := by
            intro b
            by_cases z : b = i
            · subst z; rw [if_neg (by omega), if_pos (by omega), q1', q2']; simp
            · by_cases y : b < i
              · rw [if_pos y, if_pos (by omega)]
              · rw [if_neg y, if_neg (by omega)]
          simp only [this]
        simp only [e]
theorem dnW_iff (nd gv tk : Nat) (S : Nat → Bool) (w : Nat) : dnW nd gv tk S w = true ↔ ∃ v, v < 4096 ∧ S v = true ∧ nd &&& v = nd ∧ w = (v &&& (4095 - tk)) ||| gv := by
  unfold dnW
  rw [List.any_eq_true]
  constructor
  · rintro ⟨v, v1, v2⟩
    simp only [Bool.and_eq_true, decide_eq_true_eq, List.mem_range] at v1 v2
    exact ⟨v, v1, v2.1.1, v2.1.2, v2.2⟩
  · rintro ⟨v, v1, v2, v3, v4⟩
    exact ⟨v, List.mem_range.mpr v1, by simp only [Bool.and_eq_true, decide_eq_true_eq]; exact ⟨⟨v2, v3⟩, v4⟩⟩
theorem cmp12 {tk : Nat} (ht : tk < 4096) (i : Nat) : (4095 - tk).testBit i = (decide (i < 12) && !tk.testBit i) := by
  have := Nat.testBit_two_pow_sub_succ (n := 12) ht i
  rw [show 4095 - tk = 2 ^ 12 - (tk + 1) by omega]
  exact this
theorem did_lt {v gv tk : Nat} (hv : v < 4096) (hg : gv < 4096) : (v &&& (4095 - tk)) ||| gv < 4096 := Nat.or_lt_two_pow (n := 12) (Nat.lt_of_le_of_lt Nat.and_le_left hv) hg
theorem did_bit {v gv tk b : Nat} (ht : tk < 4096) (hb : b < 12) : ((v &&& (4095 - tk)) ||| gv).testBit b = (gv.testBit b || (v.testBit b && !tk.testBit b)) := by
  rw [Nat.testBit_or, Nat.testBit_and, cmp12 ht, decide_eq_true hb, Bool.true_and, Bool.or_comm]
theorem mv_dn {nd gv tk : Nat} (hn : nd < 4096) (hg : gv < 4096) (ht : tk < 4096) (S : Nat → Bool) {w : Nat} (hw : w < 4096) : mv gv tk (fun w => S w && kp nd w 12) 12 w = dnW nd gv tk S w := by
  apply Bool.eq_iff_iff.mpr
  rw [mv_iff gv tk _ 12 (Nat.le_refl _) w hw, dnW_iff]
  constructor
  · rintro ⟨v, v1, v2, v3⟩
    rw [Bool.and_eq_true, kp_and hn, decide_eq_true_eq] at v2
    refine ⟨v, v1, v2.1, v2.2, bits12 hw (did_lt v1 hg) (fun b hb => ?_)⟩
    rw [v3 b hb, if_pos hb, did_bit ht hb]
  · rintro ⟨v, v1, v2, v3, v4⟩
    refine ⟨v, v1, by rw [v2, kp_and hn, decide_eq_true v3]; rfl, fun b hb => ?_⟩
    rw [if_pos hb, v4, did_bit ht hb]
/-- a helper's facts -/
def TH (h : AH) (a nd gv tk : Nat) : Prop := 237 ≤ a ∧ hK h a = (104, 0) ∧ hK h (a + 1) = (1, 8) ∧ hR h a 0 = some (a + 1) ∧ hI h (a + 1) 5 = nI nd ∧ hI h (a + 1) 6 = nI gv ∧ hI h (a + 1) 7 = nI tk
section CH
variable {h g : AH} {o c : Nat} {S : Nat → Bool}
theorem TH.d {a nd gv tk : Nat} (t : TH h a nd gv tk) (f : Dfr (OnC c) h g) (hc : c < 237) : TH g a nd gv tk := by
  obtain ⟨t1, t2, t3, t4, t5, t6, t7⟩ := t
  have ne : ∀ k, ¬ OnC c (a + 1) k := fun k z => by unfold OnC at z; omega
  exact ⟨t1, (f.K _).trans t2, (f.K _).trans t3, (f.R _ _).trans t4, (f.I (ne _)).trans t5, (f.I (ne _)).trans t6, (f.I (ne _)).trans t7⟩
theorem change_C (hl : Lay h) (w : WO h o c) (hc : c < 237) (wr : WR h c S) {a nd gv tk : Nat} (hn : nd < 4096) (hg : gv < 4096) (ht : tk < 4096) (t : TH h a nd gv tk) : OK (f_Wo_change h o (some a)) (fun h' => Dfr (OnC c) h h' ∧ WR h' c (dnW nd gv tk S)) := by
  have b5 : ∀ {g}, TH g a nd gv tk → rI 1 g (a + 1) (5 : Int32) = some (nI nd) := fun t => by
    have := rI_n (j := 5) t.2.2.1 (by decide) (by decide)
    rw [t.2.2.2.2.1] at this; exact this
  have b6 : ∀ {g}, TH g a nd gv tk → rI 1 g (a + 1) (6 : Int32) = some (nI gv) := fun t => by
    have := rI_n (j := 6) t.2.2.1 (by decide) (by decide)
    rw [t.2.2.2.2.2.1] at this; exact this
  have b7 : ∀ {g}, TH g a nd gv tk → rI 1 g (a + 1) (7 : Int32) = some (nI tk) := fun t => by
    have := rI_n (j := 7) t.2.2.1 (by decide) (by decide)
    rw [t.2.2.2.2.2.2] at this; exact this
  have second : ∀ n (s : Nat × AH), (s.1 ≤ 12 ∧ Dfr (OnC c) h s.2 ∧ WR s.2 c (mv gv tk (fun w => S w && kp nd w 12) s.1)) → 12 - s.1 < n → OK (f_Wo_change_L35 o (some a) n (nI s.1) s.2) (fun h' => Dfr (OnC c) h h' ∧ WR h' c (dnW nd gv tk S)) := by
    refine loopU (fun n (s : Nat × AH) => f_Wo_change_L35 o (some a) n (nI s.1) s.2) _ (fun s => 12 - s.1) _ ?_
    intro n s ⟨h1, h2, h3⟩ ih
    obtain ⟨i, g⟩ := s
    dsimp only at h1 h2 h3 ih ⊢
    have wg := w.d h2
    have lg := h2.lay hl
    have tg := t.d h2 hc
    by_cases q : i < 12
    · have qi : nI i < 12 := nI_lt (b := 12) q (by decide)
      simp only [f_Wo_change_L35, qi, if_true, Option.bind_some, gR_n (c := 4) tg.2.1, tg.2.2.2.1, b6 tg, b7 tg, hasBit_C, hb_nI (show gv < 2 ^ 31 by omega) (show i < 31 by omega), hb_nI (show tk < 2 ^ 31 by omega) (show i < 31 by omega), bI0, nI_1]
      cases z1 : gv.testBit i with
      | true =>
        rw [if_neg (by decide)]
        obtain ⟨g2, e2, f2, r2⟩ := move_C lg wg h3 q true
        have e2' : cv 11 g o (f_Wo_move g o (nI i) 1) = some g2 := by rw [cv_n (c := 11) wg.1]; exact e2
        simp only [e2', Option.bind_some]
        refine ih (i + 1, g2) ⟨by dsimp only; omega, h2.trans f2, ?_⟩ (by dsimp only; omega)
        dsimp only
        unfold mv
        rw [if_pos z1]
        exact r2
      | false =>
        rw [if_pos rfl]
        cases z2 : tk.testBit i with
        | true =>
          rw [if_neg (by decide)]
          obtain ⟨g2, e2, f2, r2⟩ := move_C lg wg h3 q false
          have e2' : cv 11 g o (f_Wo_move g o (nI i) 0) = some g2 := by rw [cv_n (c := 11) wg.1]; exact e2
          simp only [e2', Option.bind_some]
          refine ih (i + 1, g2) ⟨by dsimp only; omega, h2.trans f2, ?_⟩ (by dsimp only; omega)
          dsimp only
          unfold mv
          rw [if_neg (by rw [z1]; decide), if_pos z2]
          exact r2
        | false =>
          rw [if_pos rfl]
          refine ih (i + 1, g) ⟨by dsimp only; omega, h2, ?_⟩ (by dsimp only; omega)
          dsimp only
          unfold mv
          rw [if_neg (by rw [z1]; decide), if_neg (by rw [z2]; decide)]
          exact h3
    · have : i = 12 := by omega
      subst this
      simp only [f_Wo_change_L35, show ¬ nI 12 < 12 by decide, if_false]
      exact OK.mk ⟨h2, h3.congr (fun w hw => mv_dn hn hg ht S hw)⟩
  have first : ∀ n (s : Nat × AH), (s.1 ≤ 12 ∧ Dfr (OnC c) h s.2 ∧ WR s.2 c (fun w => S w && kp nd w s.1)) → 12 - s.1 < n → OK (f_Wo_change_L2 o (some a) (fun h7 => f_Wo_change_L35 o (some a) FU (0 : Int32) h7) n (nI s.1) s.2) (fun h' => Dfr (OnC c) h h' ∧ WR h' c (dnW nd gv tk S)) := by
    refine loopU (fun n (s : Nat × AH) => f_Wo_change_L2 o (some a) (fun h7 => f_Wo_change_L35 o (some a) FU (0 : Int32) h7) n (nI s.1) s.2) _ (fun s => 12 - s.1) _ ?_
    intro n s ⟨h1, h2, h3⟩ ih
    obtain ⟨i, g⟩ := s
    dsimp only at h1 h2 h3 ih ⊢
    have wg := w.d h2
    have lg := h2.lay hl
    have tg := t.d h2 hc
    by_cases q : i < 12
    · have qi : nI i < 12 := nI_lt (b := 12) q (by decide)
      simp only [f_Wo_change_L2, qi, if_true, Option.bind_some, gR_n (c := 4) tg.2.1, tg.2.2.2.1, b5 tg, hasBit_C, hb_nI (show nd < 2 ^ 31 by omega) (show i < 31 by omega), bI0, nI_1]
      cases z1 : nd.testBit i with
      | true =>
        rw [if_neg (by decide)]
        obtain ⟨g2, e2, f2, r2⟩ := keep_C lg wg h3 q true
        have e2' : cv 11 g o (f_Wo_keep g o (nI i) 1) = some g2 := by rw [cv_n (c := 11) wg.1]; exact e2
        simp only [e2', Option.bind_some]
        refine ih (i + 1, g2) ⟨by dsimp only; omega, h2.trans f2, ?_⟩ (by dsimp only; omega)
        dsimp only
        refine r2.congr (fun w _ => ?_)
        simp only [kp, z1]
        cases S w <;> cases kp nd w i <;> cases w.testBit i <;> rfl
      | false =>
        rw [if_pos rfl]
        refine ih (i + 1, g) ⟨by dsimp only; omega, h2, ?_⟩ (by dsimp only; omega)
        dsimp only
        refine h3.congr (fun w _ => ?_)
        simp only [kp, z1]
        cases S w <;> cases kp nd w i <;> rfl
    · have : i = 12 := by omega
      subst this
      simp only [f_Wo_change_L2, show ¬ nI 12 < 12 by decide, if_false]
      exact second FU (0, g) ⟨by simp, h2, h3⟩ (by show 12 - 0 < FU; unfold FU; omega)
  exact first FU (0, h) ⟨by simp, Dfr.refl, wr.congr (fun w _ => by simp [kp])⟩ (by show 12 - 0 < FU; unfold FU; omega)
end CH
