/-! THE REFERENCE'S WORLDS -/
theorem did_nI {v tk gv : Nat} (hv : v < 4096) (ht : tk < 4096) : (nI v &&& (nI tk ^^^ (-1 : Int32))) ||| nI gv = nI ((v &&& (4095 - tk)) ||| gv) := by
  have m1 : ∀ i, i < 32 → (-1 : Int32).toBitVec.getLsbD i = true := by decide
  apply Int32.toBitVec_inj.mp
  apply BitVec.eq_of_getLsbD_eq
  intro i hi
  rw [Int32.toBitVec_or, BitVec.getLsbD_or, Int32.toBitVec_and, BitVec.getLsbD_and, Int32.toBitVec_xor, BitVec.getLsbD_xor, nI_bit _ _ hi, nI_bit _ _ hi, nI_bit _ _ hi, nI_bit _ _ hi, m1 i hi, Nat.testBit_or, Nat.testBit_and, cmp12 ht]
  by_cases h12 : i < 12
  · simp [h12]
  · have : v.testBit i = false := Nat.testBit_lt_two_pow (Nat.lt_of_lt_of_le hv (Nat.pow_le_pow_right (n := 2) (by decide) (show 12 ≤ i by omega)))
    simp [this]
theorem cut_nI {nd v : Nat} (hn : nd < 4096) (hv : v < 4096) : nI nd &&& (nI v ^^^ (-1 : Int32)) = nI (nd &&& (4095 - v)) := by
  have := did_nI (gv := 0) hn hv
  rw [Nat.or_zero] at this
  rw [← this]
  show _ = _ ||| (0 : Int32)
  rw [Int32.or_zero]
theorem sub_iff {nd v : Nat} (hn : nd < 4096) (hv : v < 4096) : nd &&& (4095 - v) = 0 ↔ nd &&& v = nd := by
  constructor
  · intro e
    refine bits12 (Nat.lt_of_le_of_lt Nat.and_le_left hn) hn (fun i hi => ?_)
    have := congrArg (fun x => x.testBit i) e
    simp only [Nat.testBit_and, cmp12 hv, decide_eq_true hi, Bool.true_and, Nat.zero_testBit] at this
    rw [Nat.testBit_and]
    cases q : nd.testBit i with
    | false => rfl
    | true => rw [q] at this; revert this; cases v.testBit i <;> decide
  · intro e
    refine bits12 (Nat.lt_of_le_of_lt Nat.and_le_left hn) (by decide) (fun i hi => ?_)
    have := congrArg (fun x => x.testBit i) e
    simp only [Nat.testBit_and] at this
    rw [Nat.testBit_and, cmp12 hv, decide_eq_true hi, Nat.zero_testBit]
    revert this
    cases nd.testBit i <;> cases v.testBit i <;> decide
theorem need_nI {nd v : Nat} (hn : nd < 4096) (hv : v < 4096) : (nI nd &&& (nI v ^^^ (-1 : Int32)) = 0) ↔ nd &&& v = nd := by
  rw [cut_nI hn hv, show (0 : Int32) = nI 0 from rfl, nI_eq (Nat.lt_of_le_of_lt Nat.and_le_left (by omega)) (by decide), sub_iff hn hv]
def stv (kd o v : Nat) : Bool := decide (kd = 1) || decide (kd = 2) || (decide (kd = 3) && v.testBit o) || (decide (kd = 4) && !v.testBit o)
def fiv (kd nd v : Nat) : Bool := decide (kd < 3) && decide (nd &&& v = nd)
def acc (S : Nat → Bool) (kd o nd gv tk : Nat) : Nat → Nat → Bool
  | 0, _ => false
  | i + 1, u => acc S kd o nd gv tk i u || (S i && ((stv kd o i && decide (u = i)) || (fiv kd nd i && !decide (kd = 1) && decide (u = (i &&& (4095 - tk)) ||| gv))))
theorem acc_iff (S : Nat → Bool) (kd o nd gv tk u : Nat) : ∀ n, acc S kd o nd gv tk n u = true ↔ ∃ v, v < n ∧ S v = true ∧ ((stv kd o v = true ∧ u = v) ∨ (fiv kd nd v = true ∧ kd ≠ 1 ∧ u = (v &&& (4095 - tk)) ||| gv))
  | 0 => by simp [acc]
  | n + 1 => by
    rw [acc, Bool.or_eq_true, acc_iff S kd o nd gv tk u n]
    simp only [Bool.and_eq_true, Bool.or_eq_true, decide_eq_true_eq, Bool.not_eq_true', decide_eq_false_iff_not]
    constructor
    · rintro (⟨v, v1, v2, v3⟩ | ⟨v2, v3⟩)
      · exact ⟨v, by omega, v2, v3⟩
      · refine ⟨n, by omega, v2, ?_⟩
        rcases v3 with v3 | ⟨⟨v3, v4⟩, v5⟩
        · exact Or.inl v3
        · exact Or.inr ⟨v3, v4, v5⟩
    · rintro ⟨v, v1, v2, v3⟩
      by_cases e : v = n
      · subst e
        refine Or.inr ⟨v2, ?_⟩
        rcases v3 with v3 | ⟨v3, v4, v5⟩
        · exact Or.inl v3
        · exact Or.inr ⟨⟨v3, v4⟩, v5⟩
      · exact Or.inl ⟨v, by omega, v2, v3⟩
theorem acc_step {S : Nat → Bool} {kd o nd gv tk u : Nat} (hk : kd < 5) (hu : u < 4096) : acc S kd o nd gv tk 4096 u = stepK (nI kd) o nd gv tk S u := by
  have dn : (∃ v, v < 4096 ∧ S v = true ∧ nd &&& v = nd ∧ u = (v &&& (4095 - tk)) ||| gv) ↔ dnW nd gv tk S u = true := (dnW_iff nd gv tk S u).symm
  apply Bool.eq_iff_iff.mpr
  rw [acc_iff]
  unfold stepK stv fiv
  rcases (show kd = 0 ∨ kd = 1 ∨ kd = 2 ∨ kd = 3 ∨ kd = 4 by omega) with rfl | rfl | rfl | rfl | rfl
  · rw [if_pos (by decide), ← dn]; simp
  · rw [if_neg (by decide), if_pos (by decide)]
    constructor
    · rintro ⟨v, v1, v2, v3 | v3⟩
      · rw [v3.2]; exact v2
      · exact absurd rfl v3.2.1
    · intro q; exact ⟨u, hu, q, Or.inl ⟨by simp, rfl⟩⟩
  · rw [if_neg (by decide), if_neg (by decide), if_pos (by decide), Bool.or_eq_true, ← dn]
    constructor
    · rintro ⟨v, v1, v2, v3 | ⟨v3, v4, v5⟩⟩
      · left; rw [v3.2]; exact v2
      · right; exact ⟨v, v1, v2, by simpa using v3, v5⟩
    · rintro (q | ⟨v, v1, v2, v3, v4⟩)
      · exact ⟨u, hu, q, Or.inl ⟨by simp, rfl⟩⟩
      · exact ⟨v, v1, v2, Or.inr ⟨by simp [v3], by decide, v4⟩⟩
  · rw [if_neg (by decide), if_neg (by decide), if_neg (by decide), if_pos (by decide), Bool.and_eq_true]
    constructor
    · rintro ⟨v, v1, v2, v3 | v3⟩
      · rw [v3.2]; exact ⟨v2, by simpa using v3.1⟩
      · simp at v3
    · rintro ⟨q, z⟩; exact ⟨u, hu, q, Or.inl ⟨by simp [z], rfl⟩⟩
  · rw [if_neg (by decide), if_neg (by decide), if_neg (by decide), if_neg (by decide), Bool.and_eq_true]
    constructor
    · rintro ⟨v, v1, v2, v3 | v3⟩
      · rw [v3.2]; exact ⟨v2, by simpa using v3.1⟩
      · simp at v3
    · rintro ⟨q, z⟩; exact ⟨u, hu, q, Or.inl ⟨by simpa using z, rfl⟩⟩
def ZR (g : AH) (a : Nat) (S : Nat → Bool) : Prop := ∀ w, w < 4096 → hI g a w = bI (S w)
def SWd (a _k : Nat) : Prop := a = 235 ∨ a = 236
theorem bI_and1 (b : Bool) : bI b &&& 1 = bI b := by cases b <;> decide
section PS
variable {h g : AH} {hn ev : Nat} {ha : Nat → Nat} {S : Nat → Bool}
theorem fill_M (hl : Lay h) (y2 y3 : Int32) (k : AH → Option AH) (Q : AH → Prop) (hk : ∀ g, Dfr (OnC 236) h g → ZR g 236 (fun _ => false) → OK (k g) Q) : OK (f_M_pass_L17 201 y2 y3 k FU 0 h) Q := by
  have main : ∀ n (s : Nat × AH), (s.1 ≤ 4096 ∧ Dfr (OnC 236) h s.2 ∧ ∀ w, w < s.1 → hI s.2 236 w = bI false) → 4096 - s.1 < n → OK (f_M_pass_L17 201 y2 y3 k n (nI s.1) s.2) Q := by
    refine loopU (fun n (s : Nat × AH) => f_M_pass_L17 201 y2 y3 k n (nI s.1) s.2) _ (fun s => 4096 - s.1) _ ?_
    intro n s ⟨h1, h2, h3⟩ ih
    obtain ⟨i, g⟩ := s
    dsimp only at h1 h2 h3 ih ⊢
    have lg := h2.lay hl
    by_cases q : i < 4096
    · have qi : nI i < 4096 := nI_lt (b := 4096) q (by decide)
      simp only [f_M_pass_L17, qi, if_true, gR_n (kk201 lg), LR lg, Option.bind_some, wZ_n (show 4 ≤ 236 by decide) (kk236 lg) q (by decide), nI_1]
      refine ih (i + 1, uI g 236 i _) ⟨by dsimp only; omega, h2.trans (Dfr.uI (by decide) rfl), fun w hw => ?_⟩ (by dsimp only; omega)
      dsimp only at hw ⊢
      by_cases e : w = i
      · subst e; rw [hI_eq]; decide
      · rw [hI_ne (by omega)]; exact h3 w (by omega)
    · have : i = 4096 := by omega
      subst this
      simp only [f_M_pass_L17, show ¬ nI 4096 < 4096 by decide, if_false]
      exact hk g h2 h3
  exact main FU (0, h) ⟨by simp, Dfr.refl, fun w hw => absurd hw (by simp)⟩ (by show 4096 - 0 < FU; unfold FU; omega)
theorem copy_M (hl : Lay h) (z : ZR h 236 S) : OK (f_M_pass_L191 201 FU 0 h) (fun g => Dfr (OnC 235) h g ∧ ZR g 235 S) := by
  have main : ∀ n (s : Nat × AH), (s.1 ≤ 4096 ∧ Dfr (OnC 235) h s.2 ∧ ∀ w, w < s.1 → hI s.2 235 w = bI (S w)) → 4096 - s.1 < n → OK (f_M_pass_L191 201 n (nI s.1) s.2) (fun g => Dfr (OnC 235) h g ∧ ZR g 235 S) := by
    refine loopU (fun n (s : Nat × AH) => f_M_pass_L191 201 n (nI s.1) s.2) _ (fun s => 4096 - s.1) _ ?_
    intro n s ⟨h1, h2, h3⟩ ih
    obtain ⟨i, g⟩ := s
    dsimp only at h1 h2 h3 ih ⊢
    have lg := h2.lay hl
    by_cases q : i < 4096
    · have qi : nI i < 4096 := nI_lt (b := 4096) q (by decide)
      have e6 : hI g 236 i = bI (S i) := by rw [h2.I (by unfold OnC; omega)]; exact z i q
      simp only [f_M_pass_L191, qi, if_true, gR_n (kk201 lg), LR lg, Option.bind_some, rI_n (kk236 lg) q (by decide), e6, wZ_n (show 4 ≤ 235 by decide) (kk235 lg) q (by decide), nI_1, bI_and1]
      refine ih (i + 1, uI g 235 i _) ⟨by dsimp only; omega, h2.trans (Dfr.uI (by decide) rfl), fun w hw => ?_⟩ (by dsimp only; omega)
      dsimp only at hw ⊢
      by_cases e : w = i
      · subst e; rw [hI_eq]
      · rw [hI_ne (by omega)]; exact h3 w (by omega)
    · have : i = 4096 := by omega
      subst this
      simp only [f_M_pass_L191, show ¬ nI 4096 < 4096 by decide, if_false]
      exact OK.mk ⟨h2, h3⟩
  exact main FU (0, h) ⟨by simp, Dfr.refl, fun w hw => absurd hw (by simp)⟩ (by show 4096 - 0 < FU; unfold FU; omega)
theorem st_M {kd o i : Nat} (hk : kd < 5) (ho : o < 12) (hi : i < 4096) : ((
          if nI kd = (1 : Int32) then
            some ((1 : Int32))
          else
            if nI kd = (2 : Int32) then
              some ((1 : Int32))
            else
              if nI kd = (3 : Int32) then
                if ((nI i >>> (nI o &&& 31)) &&& (1 : Int32)) = (1 : Int32) then
                  some ((1 : Int32))
                else
                  if nI kd = (4 : Int32) then
                    if ((nI i >>> (nI o &&& 31)) &&& (1 : Int32)) = (0 : Int32) then
                      some ((1 : Int32))
                    else
                      some ((0 : Int32))
                  else
                    some ((0 : Int32))
              else
                if nI kd = (4 : Int32) then
                  if ((nI i >>> (nI o &&& 31)) &&& (1 : Int32)) = (0 : Int32) then
                    some ((1 : Int32))
                  else
                    some ((0 : Int32))
                else
                  some ((0 : Int32))
        ) : Option Int32) = some (bI (stv kd o i)) := by
  have b1 := hb_1 (nI i) o
  have b0 := bit_0 (n := i) (i := o) (by omega) (by omega)
  rw [hb_nI (by omega) (by omega)] at b1
  unfold stv
  rcases (show kd = 0 ∨ kd = 1 ∨ kd = 2 ∨ kd = 3 ∨ kd = 4 by omega) with rfl | rfl | rfl | rfl | rfl
  · rfl
  · rfl
  · rfl
  · simp only [b1, b0, show ¬ (nI 3 = 1) by decide, show ¬ (nI 3 = 2) by decide, show nI 3 = 3 from rfl, show ¬ ((3 : Int32) = 4) by decide, if_true, if_false]
    cases i.testBit o <;> rfl
  · simp only [b1, b0, show ¬ (nI 4 = 1) by decide, show ¬ (nI 4 = 2) by decide, show ¬ (nI 4 = 3) by decide, show nI 4 = 4 from rfl, if_true, if_false]
    cases i.testBit o <;> rfl
theorem mid_M (hl : Lay h) (z : ZR h 235 S) (z0 : ZR h 236 (fun _ => false)) {kd o nd gv tk : Nat} (hk : kd < 5) (ho : o < 12) (hh : kd < 3 → o < 8 ∧ hI h 206 o = nI nd ∧ hI h 207 o = nI gv ∧ hI h 208 o = nI tk ∧ nd < 4096 ∧ gv < 4096 ∧ tk < 4096) (k : AH → Option AH) (Q : AH → Prop)
    (hq : ∀ g, Dfr (OnC 236) h g → ZR g 236 (stepK (nI kd) o nd gv tk S) → OK (k g) Q) : OK (f_M_pass_L42 201 (nI kd) (nI o) k FU 0 h) Q := by
  have main : ∀ n (s : Nat × AH), (s.1 ≤ 4096 ∧ Dfr (OnC 236) h s.2 ∧ ZR s.2 236 (acc S kd o nd gv tk s.1)) → 4096 - s.1 < n → OK (f_M_pass_L42 201 (nI kd) (nI o) k n (nI s.1) s.2) Q := by
    refine loopU (fun n (s : Nat × AH) => f_M_pass_L42 201 (nI kd) (nI o) k n (nI s.1) s.2) _ (fun s => 4096 - s.1) _ ?_
    intro n s ⟨h1, h2, h3⟩ ih
    obtain ⟨i, g⟩ := s
    dsimp only at h1 h2 h3 ih ⊢
    have lg := h2.lay hl
    by_cases q : i < 4096
    · have qi : nI i < 4096 := nI_lt (b := 4096) q (by decide)
      have e5 : hI g 235 i = bI (S i) := by rw [h2.I (by unfold OnC; omega)]; exact z i q
      simp only [f_M_pass_L42, qi, if_true, gR_n (kk201 lg), LR lg, Option.bind_some, rI_n (kk235 lg) q (by decide), e5, nI_1]
      cases hS : S i with
      | false =>
        simp only [bI, Bool.false_eq_true, if_false, if_true]
        refine ih (i + 1, g) ⟨by dsimp only; omega, h2, fun u hu => ?_⟩ (by dsimp only; omega)
        dsimp only
        rw [h3 u hu, acc, hS]
        simp
      | true =>
        simp only [bI, if_true, show ¬ ((1 : Int32) = 0) by decide, if_false]
        have e17 : ((if nI kd < (3 : Int32) then (rI 1 g 206 (nI o)).bind fun x16 => if (x16 &&& (nI i ^^^ (-1 : Int32))) = (0 : Int32) then some (1 : Int32) else some (0 : Int32) else some (0 : Int32)) : Option Int32) = some (bI (fiv kd nd i)) := by
          by_cases k3 : kd < 3
          · have k3' : nI kd < 3 := nI_lt (b := 3) k3 (by decide)
            obtain ⟨o8, v1, v2, v3, n1, n2, n3⟩ := hh k3
            have v1' : hI g 206 o = nI nd := by rw [h2.I (by unfold OnC; omega)]; exact v1
            rw [if_pos k3', rI_n (kk206 lg) o8 (by decide), v1', Option.bind_some]
            have nn := need_nI n1 q
            unfold fiv
            by_cases y : nd &&& i = nd
            · rw [if_pos (nn.mpr y)]; simp [k3, y, bI]
            · rw [if_neg (fun z => y (nn.mp z))]; simp [k3, y, bI]
          · have k3' : ¬ nI kd < 3 := nI_nlt (b := 3) (by omega) (by omega)
            rw [if_neg k3']; simp [fiv, k3, bI]
        simp only [e17, st_M hk ho q, Option.bind_some, rI_n (kk236 lg) q (by decide), h3 i q]
        have e23 : ((if bI (acc S kd o nd gv tk i i) = (0 : Int32) then (if bI (stv kd o i) = (0 : Int32) then some (0 : Int32) else some (1 : Int32)) else some (1 : Int32)) : Option Int32) = some (bI (acc S kd o nd gv tk i i || stv kd o i)) := by
          cases acc S kd o nd gv tk i i <;> cases stv kd o i <;> rfl
        simp only [e23, Option.bind_some, wZ_n (show 4 ≤ 236 by decide) (kk236 lg) q (by decide), bI_and1]
        obtain ⟨g1, eg1⟩ : ∃ g1, g1 = uI g 236 i (bI (acc S kd o nd gv tk i i || stv kd o i)) := ⟨_, rfl⟩
        rw [← eg1]
        have f1 : Dfr (OnC 236) h g1 := by rw [eg1]; exact h2.trans (Dfr.uI (by decide) rfl)
        have l1 := f1.lay hl
        have g1v : ∀ u, u < 4096 → hI g1 236 u = bI (acc S kd o nd gv tk i u || (stv kd o i && decide (u = i))) := by
          intro u hu
          rw [eg1]
          by_cases e : u = i
          · subst e; rw [hI_eq]; simp
          · rw [hI_ne (by omega), h3 u hu]; simp [e]
        by_cases fi : (fiv kd nd i && !decide (kd = 1)) = true
        · rw [Bool.and_eq_true] at fi
          have k1 : ¬ kd = 1 := by simpa using fi.2
          have k3 : kd < 3 := by have := fi.1; unfold fiv at this; simp at this; exact this.1
          have k1' : ¬ nI kd = 1 := fun y => k1 (nI_inj (b := 1) (by omega) (by decide) y)
          obtain ⟨o8, v1, v2, v3, n1, n2, n3⟩ := hh k3
          have v2' : hI g1 207 o = nI gv := by rw [f1.I (by unfold OnC; omega)]; exact v2
          have v3' : hI g1 208 o = nI tk := by rw [f1.I (by unfold OnC; omega)]; exact v3
          have ed : f_M_did g1 201 (nI i) (nI o) = some (nI ((i &&& (4095 - tk)) ||| gv)) := by
            simp only [f_M_did, gR_n (kk201 l1), LR l1, Option.bind_some, rI_n (kk208 l1) o8 (by decide), rI_n (kk207 l1) o8 (by decide), v2', v3']
            rw [did_nI q n3]
          have dl := did_lt (tk := tk) q n2
          simp only [fi.1, bI, if_true, show ¬ ((1 : Int32) = 0) by decide, if_false, k1', gR_n (kk201 l1), LR l1, Option.bind_some, cv_n (kk201 l1), ed, wZ_n (show 4 ≤ 236 by decide) (kk236 l1) dl (by decide), nI_1]
          refine ih (i + 1, uI g1 236 _ _) ⟨by dsimp only; omega, f1.trans (Dfr.uI (by decide) rfl), fun u hu => ?_⟩ (by dsimp only; omega)
          dsimp only
          rw [acc, hS, fi.1, fi.2]
          by_cases e : u = (i &&& (4095 - tk)) ||| gv
          · rw [← e, hI_eq]; simp [bI]
          · rw [hI_ne (by omega), g1v u hu]; simp [e]
        · have done : OK (f_M_pass_L42 201 (nI kd) (nI o) k n (nI (i + 1)) g1) Q := by
            refine ih (i + 1, g1) ⟨by dsimp only; omega, f1, fun u hu => ?_⟩ (by dsimp only; omega)
            dsimp only
            rw [g1v u hu, acc, hS]
            have : (fiv kd nd i && !decide (kd = 1)) = false := by simpa using fi
            rw [this]
            simp
          cases hf : fiv kd nd i with
          | false =>
            simp only [bI, Bool.false_eq_true, if_false, if_true]
            exact done
          | true =>
            have k1 : kd = 1 := by rw [hf] at fi; simpa using fi
            have k1' : nI kd = 1 := by rw [k1]; rfl
            simp only [bI, if_true, show ¬ ((1 : Int32) = 0) by decide, if_false, k1']
            rw [k1'] at done
            exact done
    · have : i = 4096 := by omega
      subst this
      simp only [f_M_pass_L42, show ¬ nI 4096 < 4096 by decide, if_false]
      exact hq g h2 (fun u hu => by rw [h3 u hu, acc_step hk hu])
  exact main FU (0, h) ⟨by simp, Dfr.refl, fun w hw => by dsimp only; rw [z0 w hw]; rfl⟩ (by show 4096 - 0 < FU; unfold FU; omega)
theorem pass_M (hl : Lay h) (rh : RHelp h hn ha) (rl : RLog h hn ev) {e : Nat} (he : e < ev) (z : ZR h 235 S) : OK (f_M_pass h 201 (nI e)) (fun g => Dfr SWd h g ∧ ZR g 235 (stepW h e S)) := by
  have h8 := rh.1
  have h30 := rl.1
  obtain ⟨k, o, k1, o1, ko⟩ := rl.2.2.2.2.1 e he
  have oN : ofN h e = o := by unfold ofN; rw [o1, cl_nI (by omega)]
  obtain ⟨nd, gv, tk, hh⟩ : ∃ nd gv tk, (hI h 206 o).toBitVec.toNat = nd ∧ (hI h 207 o).toBitVec.toNat = gv ∧ (hI h 208 o).toBitVec.toNat = tk := ⟨_, _, _, rfl, rfl, rfl⟩
  have hh' : k < 3 → o < 8 ∧ hI h 206 o = nI nd ∧ hI h 207 o = nI gv ∧ hI h 208 o = nI tk ∧ nd < 4096 ∧ gv < 4096 ∧ tk < 4096 := by
    intro k3
    have on : o < hn := by omega
    obtain ⟨nd', gv', tk', a1, a2, a3, b1, b2, b3, _⟩ := (rh.2.2.2 o on).2.th
    obtain ⟨c1, c2, c3⟩ := hh
    rw [b1, nI_toNat (by omega)] at c1
    rw [b2, nI_toNat (by omega)] at c2
    rw [b3, nI_toNat (by omega)] at c3
    subst c1; subst c2; subst c3
    exact ⟨by omega, b1, b2, b3, a1, a2, a3⟩
  simp only [f_M_pass, gR_n (kk201 hl), LR hl, Option.bind_some, rI_n (kk212 hl) (show e < 30 by omega) (by decide), rI_n (kk213 hl) (show e < 30 by omega) (by decide), k1, o1]
  refine fill_M hl _ _ _ _ (fun g1 f1 z1 => ?_)
  have l1 := f1.lay hl
  refine mid_M (S := S) (nd := nd) (gv := gv) (tk := tk) l1 (fun w hw => by rw [f1.I (by unfold OnC; omega)]; exact z w hw) z1 (by omega) (by omega) (fun k3 => ?_) _ _ (fun g2 f2 z2 => ?_)
  · obtain ⟨a1, a2, a3, a4, a5⟩ := hh' k3
    exact ⟨a1, by rw [f1.I (by unfold OnC; omega)]; exact a2, by rw [f1.I (by unfold OnC; omega)]; exact a3, by rw [f1.I (by unfold OnC; omega)]; exact a4, a5⟩
  · have l2 := f2.lay l1
    refine (copy_M l2 z2).mono (fun g3 ⟨f3, z3⟩ => ⟨((f1.mono (fun a k z => Or.inr z)).trans (f2.mono (fun a k z => Or.inr z))).trans (f3.mono (fun a k z => Or.inl z)), fun w hw => ?_⟩)
    rw [z3 w hw]
    unfold stepW
    rw [oN, k1, hh.1, hh.2.1, hh.2.2]
theorem SWd_help (hl : Lay h) (rh : RHelp h hn ha) (f : Dfr SWd h g) : RHelp g hn ha := rh.ag hl.2.2.2.2.2.2 (f.fr.ag (by unfold FHelp SWd; omega))
theorem SWd_log (hl : Lay h) (rl : RLog h hn ev) (f : Dfr SWd h g) : RLog g hn ev := rl.ag hl.2.2.2.2.2.2 (f.fr.ag (by unfold FLog SWd; omega))
theorem SWd_wld (hl : Lay h) (f : Dfr SWd h g) : wld g = wld h := wld_ag hl.2.2.2.2.2.2 (f.fr.ag (by unfold FLog SWd; omega))
theorem count_M (hl : Lay h) (z : ZR h 235 S) : f_M_passAll_L56 h 201 FU 0 0 = some (nI (cnS S 4096), h) := by
  have main : ∀ d i n, i + d = 4096 → d < n → f_M_passAll_L56 h 201 n (nI (cnS S i)) (nI i) = some (nI (cnS S 4096), h) := by
    intro d
    induction d with
    | zero =>
      intro i n h1 h2
      obtain ⟨n, rfl⟩ : ∃ q, n = q + 1 := ⟨n - 1, by omega⟩
      have : i = 4096 := by omega
      subst this
      simp only [f_M_passAll_L56, show ¬ nI 4096 < 4096 by decide, if_false]
    | succ d ih =>
      intro i n h1 h2
      obtain ⟨n, rfl⟩ : ∃ q, n = q + 1 := ⟨n - 1, by omega⟩
      have q : i < 4096 := by omega
      have qi : nI i < 4096 := nI_lt (b := 4096) q (by decide)
      have e : ((if hI h 235 i = (0 : Int32) then some (0 : Int32) else some (1 : Int32)) : Option Int32) = some (nI (if S i = true then 1 else 0)) := by rw [z i q]; cases S i <;> rfl
      simp only [f_M_passAll_L56, qi, if_true, gR_n (kk201 hl), LR hl, Option.bind_some, rI_n (kk235 hl) q (by decide), e, nI_add, nI_1]
      exact ih (i + 1) n (by omega) (by omega)
  exact main 4096 0 FU rfl (by unfold FU; omega)
theorem passAll_M (hl : Lay h) (rh : RHelp h hn ha) (rl : RLog h hn ev) {t : Nat} (ht : t ≤ ev) : OK (f_M_passAll h 201 (nI t)) (fun q => q.1 = nI (cnS (wld h t) 4096) ∧ Dfr SWd h q.2 ∧ ZR q.2 235 (wld h t)) := by
  have h30 := rl.1
  have second : ∀ n (s : Nat × AH), (s.1 ≤ t ∧ Dfr SWd h s.2 ∧ ZR s.2 235 (wld h s.1)) → t - s.1 < n → OK (f_M_passAll_L36 201 (nI t) (fun h8 => f_M_passAll_L56 h8 201 FU (0 : Int32) (0 : Int32)) n (nI s.1) s.2) (fun q => q.1 = nI (cnS (wld h t) 4096) ∧ Dfr SWd h q.2 ∧ ZR q.2 235 (wld h t)) := by
    refine loopU (fun n (s : Nat × AH) => f_M_passAll_L36 201 (nI t) (fun h8 => f_M_passAll_L56 h8 201 FU (0 : Int32) (0 : Int32)) n (nI s.1) s.2) _ (fun s => t - s.1) _ ?_
    intro n s ⟨h1, h2, h3⟩ ih
    obtain ⟨i, g⟩ := s
    dsimp only at h1 h2 h3 ih ⊢
    have lg := h2.lay hl
    by_cases q : i < t
    · obtain ⟨g2, e2, f2, z2⟩ := pass_M lg (SWd_help hl rh h2) (SWd_log hl rl h2) (show i < ev by omega) h3
      simp only [f_M_passAll_L36, nI_lt q (by omega), if_true, cv_n (kk201 lg), e2, Option.bind_some, nI_1]
      refine ih (i + 1, g2) ⟨by dsimp only; omega, h2.trans f2, fun w hw => ?_⟩ (by dsimp only; omega)
      dsimp only
      rw [z2 w hw]
      show _ = bI (stepW h i (wld h i) w)
      unfold stepW ofN
      rw [h2.I (a := 212) (by unfold SWd; omega), h2.I (a := 213) (by unfold SWd; omega), h2.I (a := 206) (by unfold SWd; omega), h2.I (a := 207) (by unfold SWd; omega), h2.I (a := 208) (by unfold SWd; omega)]
    · have : i = t := by omega
      subst this
      simp only [f_M_passAll_L36, nI_nlt (Nat.le_refl i) (by omega), if_false]
      exact OK.eq (count_M lg h3) ⟨rfl, h2, h3⟩
  have first : ∀ n (s : Nat × AH), (s.1 ≤ 4096 ∧ Dfr SWd h s.2 ∧ ∀ w, w < s.1 → hI s.2 235 w = bI (wld h 0 w)) → 4096 - s.1 < n → OK (f_M_passAll_L2 201 (nI t) (fun h6 => f_M_passAll_L36 201 (nI t) (fun h8 => f_M_passAll_L56 h8 201 FU (0 : Int32) (0 : Int32)) FU (0 : Int32) h6) n (nI s.1) s.2) (fun q => q.1 = nI (cnS (wld h t) 4096) ∧ Dfr SWd h q.2 ∧ ZR q.2 235 (wld h t)) := by
    refine loopU (fun n (s : Nat × AH) => f_M_passAll_L2 201 (nI t) (fun h6 => f_M_passAll_L36 201 (nI t) (fun h8 => f_M_passAll_L56 h8 201 FU (0 : Int32) (0 : Int32)) FU (0 : Int32) h6) n (nI s.1) s.2) _ (fun s => 4096 - s.1) _ ?_
    intro n s ⟨h1, h2, h3⟩ ih
    obtain ⟨i, g⟩ := s
    dsimp only at h1 h2 h3 ih ⊢
    have lg := h2.lay hl
    by_cases q : i < 4096
    · have qi : nI i < 4096 := nI_lt (b := 4096) q (by decide)
      have e : ((if nI i = hI g 201 17 then some (1 : Int32) else some (0 : Int32)) : Option Int32) = some (bI (wld h 0 i)) := by
        rw [h2.I (by unfold SWd; omega)]
        show _ = some (bI (decide (hI h 201 17 = nI i)))
        by_cases y : hI h 201 17 = nI i
        · rw [if_pos y.symm, decide_eq_true y]; rfl
        · rw [if_neg (fun z => y z.symm), decide_eq_false y]; rfl
      simp only [f_M_passAll_L2, qi, if_true, gR_n (kk201 lg), LR lg, gI_n (kk201 lg), Option.bind_some, e, wZ_n (show 4 ≤ 235 by decide) (kk235 lg) q (by decide), nI_1, bI_and1]
      refine ih (i + 1, uI g 235 i _) ⟨by dsimp only; omega, h2.trans (Dfr.uI (by decide) (Or.inl rfl)), fun w hw => ?_⟩ (by dsimp only; omega)
      dsimp only at hw ⊢
      by_cases y : w = i
      · subst y; rw [hI_eq]
      · rw [hI_ne (by omega)]; exact h3 w (by omega)
    · have : i = 4096 := by omega
      subst this
      simp only [f_M_passAll_L2, show ¬ nI 4096 < 4096 by decide, if_false]
      exact second FU (0, g) ⟨by simp, h2, h3⟩ (by show t - 0 < FU; unfold FU; omega)
  exact first FU (0, h) ⟨by simp, Dfr.refl, fun w hw => absurd hw (by simp)⟩ (by show 4096 - 0 < FU; unfold FU; omega)
end PS
