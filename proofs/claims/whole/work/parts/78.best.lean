/-! THE BEST ROW: what it is, and how a search that looks at one row behind the other finds it -/
abbrev Rw := Nat → Nat
def cst (h0 : AH) (r : Rw) : Nat → Nat
  | 0 => 0
  | i + 1 => cst h0 r i + prN h0 (r i)
def key (h0 : AH) (r : Rw) (L : Nat) : Nat × Nat := (cst h0 r L, L)
def lt2 (a b : Nat × Nat) : Prop := a.1 < b.1 ∨ (a.1 = b.1 ∧ a.2 < b.2)
def lexlt (r r' : Rw) (L : Nat) : Prop := ∃ j, j < L ∧ (∀ i, i < j → r i = r' i) ∧ r j < r' j
def ltO (h0 : AH) (a : Nat × Nat) : Option (Rw × Nat) → Prop
  | none => True
  | some b => lt2 a (key h0 b.1 b.2)
/-- b' is the best of b and of the rows X, the first of those that are alike -/
def Res (h0 : AH) (X : Rw → Nat → Prop) (b b' : Option (Rw × Nat)) : Prop :=
  (b' = b ∧ ∀ r L, X r L → ¬ ltO h0 (key h0 r L) b) ∨ ∃ r L, b' = some (r, L) ∧ X r L ∧ ltO h0 (key h0 r L) b ∧ ∀ r' L', X r' L' → ¬ lt2 (key h0 r' L') (key h0 r L) ∧ (key h0 r' L' = key h0 r L → ¬ lexlt r' r L)
section BR
variable {h0 : AH} {X Y Z : Rw → Nat → Prop} {b0 b1 b2 : Option (Rw × Nat)}
theorem lt2_t {a b c : Nat × Nat} (x : lt2 a b) (y : lt2 b c) : lt2 a c := by unfold lt2 at *; omega
theorem lt2_n {a b c : Nat × Nat} (x : lt2 a b) (y : ¬ lt2 c b) : ¬ lt2 c a ∧ ¬ c = a := by
  unfold lt2 at *
  refine ⟨by omega, fun e => ?_⟩
  subst e
  exact y x
theorem lexlt_as {r r' : Rw} {L : Nat} (x : lexlt r r' L) : ¬ lexlt r' r L := by
  rintro ⟨j', j1, j2, j3⟩
  obtain ⟨j, k1, k2, k3⟩ := x
  rcases Nat.lt_trichotomy j j' with q | q | q
  · have := j2 j q; omega
  · subst q; omega
  · have := k2 j' q; omega
theorem Res.comp (x : Res h0 X b0 b1) (z : Res h0 Z b1 b2) (o : ∀ r r' L, X r L → Z r' L → lexlt r r' L) : Res h0 (fun r L => X r L ∨ Z r L) b0 b2 := by
  rcases x with ⟨rfl, x1⟩ | ⟨r, L, rfl, x1, x2, x3⟩
  · rcases z with ⟨rfl, z1⟩ | ⟨r', L', rfl, z1, z2, z3⟩
    · exact Or.inl ⟨rfl, fun r L q => q.elim (x1 r L) (z1 r L)⟩
    · refine Or.inr ⟨r', L', rfl, Or.inr z1, z2, fun r L q => ?_⟩
      rcases q with q | q
      · have := x1 r L q
        cases b1 with
        | none => exact absurd trivial this
        | some b =>
          have := lt2_n z2 this
          exact ⟨this.1, fun e => absurd e this.2⟩
      · exact z3 r L q
  · rcases z with ⟨rfl, z1⟩ | ⟨r', L', rfl, z1, z2, z3⟩
    · refine Or.inr ⟨r, L, rfl, Or.inl x1, x2, fun r' L' q => ?_⟩
      rcases q with q | q
      · exact x3 r' L' q
      · refine ⟨z1 r' L' q, fun e => ?_⟩
        have eL : L' = L := congrArg Prod.snd e
        subst eL
        exact lexlt_as (o r r' L' x1 q)
    · refine Or.inr ⟨r', L', rfl, Or.inr z1, ?_, fun r2 L2 q => ?_⟩
      · cases b0 with
        | none => trivial
        | some b => exact lt2_t z2 x2
      · rcases q with q | q
        · have := lt2_n z2 (x3 r2 L2 q).1
          exact ⟨this.1, fun e => absurd e this.2⟩
        · exact z3 r2 L2 q
theorem Res.iff (x : Res h0 X b0 b1) (e : ∀ r L, X r L ↔ Y r L) : Res h0 Y b0 b1 := by
  rcases x with ⟨rfl, x1⟩ | ⟨r, L, rfl, x1, x2, x3⟩
  · exact Or.inl ⟨rfl, fun r L q => x1 r L ((e r L).mpr q)⟩
  · exact Or.inr ⟨r, L, rfl, (e r L).mp x1, x2, fun r' L' q => x3 r' L' ((e r' L').mpr q)⟩
theorem Res.nil (e : ∀ r L, ¬ X r L) : Res h0 X b0 b0 := Or.inl ⟨rfl, fun r L q => absurd q (e r L)⟩
theorem lex_tri {r r' : Rw} : ∀ L, lexlt r r' L ∨ lexlt r' r L ∨ ∀ i, i < L → r i = r' i
  | 0 => Or.inr (Or.inr (fun i hi => by omega))
  | L + 1 => by
    rcases lex_tri (r := r) (r' := r') L with ⟨j, j1, j2, j3⟩ | ⟨j, j1, j2, j3⟩ | e
    · exact Or.inl ⟨j, by omega, j2, j3⟩
    · exact Or.inr (Or.inl ⟨j, by omega, j2, j3⟩)
    · rcases Nat.lt_trichotomy (r L) (r' L) with q | q | q
      · exact Or.inl ⟨L, by omega, e, q⟩
      · refine Or.inr (Or.inr (fun i hi => ?_))
        by_cases z : i = L
        · rw [z]; exact q
        · exact e i (by omega)
      · exact Or.inr (Or.inl ⟨L, by omega, fun i hi => (e i hi).symm, q⟩)
/-- two searches through the same rows find the same -/
theorem Res.uni (x : Res h0 X none b1) (y : Res h0 X none b2) : (b1 = none ∧ b2 = none) ∨ ∃ r r' L, b1 = some (r, L) ∧ b2 = some (r', L) ∧ X r L ∧ X r' L ∧ cst h0 r L = cst h0 r' L ∧ ∀ i, i < L → r i = r' i := by
  rcases x with ⟨rfl, x1⟩ | ⟨r, L, rfl, x1, x2, x3⟩
  · rcases y with ⟨rfl, y1⟩ | ⟨r', L', rfl, y1, y2, y3⟩
    · exact Or.inl ⟨rfl, rfl⟩
    · exact absurd trivial (x1 r' L' y1)
  · rcases y with ⟨rfl, y1⟩ | ⟨r', L', rfl, y1, y2, y3⟩
    · exact absurd trivial (y1 r L x1)
    · obtain ⟨a1, a2⟩ := x3 r' L' y1
      obtain ⟨c1, c2⟩ := y3 r L x1
      have e : key h0 r' L' = key h0 r L := by
        unfold lt2 at a1 c1
        apply Prod.ext
        · omega
        · omega
      have eL : L' = L := congrArg Prod.snd e
      have eC : cst h0 r' L' = cst h0 r L := congrArg Prod.fst e
      subst eL
      refine Or.inr ⟨r, r', L', rfl, rfl, x1, y1, eC.symm, ?_⟩
      rcases lex_tri (r := r) (r' := r') L' with q | q | q
      · exact absurd q (c2 e.symm)
      · exact absurd q (a2 e)
      · exact q
theorem cst_cong {r r' : Rw} : ∀ L, (∀ i, i < L → r i = r' i) → cst h0 r L = cst h0 r' L
  | 0, _ => rfl
  | L + 1, e => by simp only [cst]; rw [cst_cong L (fun i hi => e i (by omega)), e L (by omega)]
theorem cst_mono (r : Rw) {L L' : Nat} (h : L ≤ L') : cst h0 r L ≤ cst h0 r L' := by
  obtain ⟨d, rfl⟩ : ∃ d, L' = L + d := ⟨L' - L, by omega⟩
  induction d with
  | zero => exact Nat.le_refl _
  | succ d ih => have := ih (by omega); rw [show L + (d + 1) = (L + d) + 1 by omega, cst]; omega
theorem cnt_cong {r r' : Rw} (s : Nat) : ∀ L, (∀ i, i < L → r i = r' i) → cnt r s L = cnt r' s L
  | 0, _ => rfl
  | L + 1, e => by simp only [cnt]; rw [cnt_cong s L (fun i hi => e i (by omega)), e L (by omega)]
theorem run_cong {r r' : Rw} (F : Int32) : ∀ L, (∀ i, i < L → r i = r' i) → run h0 r F L = run h0 r' F L
  | 0, _ => rfl
  | L + 1, e => by simp only [run]; rw [run_cong F L (fun i hi => e i (by omega)), e L (by omega)]
theorem stop_cong {r r' : Rw} (F : Int32) {i : Nat} (e : ∀ j, j ≤ i → r j = r' j) : stopP h0 r F i = stopP h0 r' F i := by
  unfold stopP
  rw [e i (Nat.le_refl _), cnt_cong (r' i) i (fun j hj => e j (by omega)), run_cong F i (fun j hj => e j (by omega))]
/-- a row that goes through and brings the wish -/
def rowK (h0 : AH) (hn : Nat) (F w : Int32) (r : Rw) (L : Nat) : Prop := (∀ i, i < L → r i < hn) ∧ (∀ i, i < L → stopP h0 r F i = false) ∧ w &&& ((run h0 r F L).1 ^^^ -1) = 0
theorem rowK_cong {hn : Nat} {F w : Int32} {r r' : Rw} {L : Nat} (e : ∀ i, i < L → r i = r' i) (x : rowK h0 hn F w r L) : rowK h0 hn F w r' L := by
  refine ⟨fun i hi => by rw [← e i hi]; exact x.1 i hi, fun i hi => ?_, ?_⟩
  · rw [← stop_cong F (fun j hj => e j (by omega))]; exact x.2.1 i hi
  · rw [← run_cong F L e]; exact x.2.2
/-- the rows that begin so -/
def ext (h0 : AH) (hn most : Nat) (F w : Int32) (t : Rw) (l : Nat) (r : Rw) (L : Nat) : Prop := l ≤ L ∧ L ≤ most ∧ (∀ i, i < l → r i = t i) ∧ rowK h0 hn F w r L
/-- rows as numbers -/
def cdr (hn : Nat) (r : Rw) : Nat → Nat
  | 0 => 0
  | i + 1 => cdr hn r i * hn + r i
theorem cdr_lt {hn : Nat} {r : Rw} : ∀ L, (∀ i, i < L → r i < hn) → cdr hn r L < hn ^ L
  | 0, _ => by simp [cdr]
  | L + 1, e => by
    have h1 := cdr_lt L (fun i hi => e i (by omega))
    have h2 := e L (by omega)
    simp only [cdr, Nat.pow_succ]
    have h3 : (cdr hn r L + 1) * hn ≤ hn ^ L * hn := Nat.mul_le_mul_right hn h1
    rw [Nat.add_mul, Nat.one_mul] at h3
    omega
theorem cdr_dm {hn : Nat} {r : Rw} {L : Nat} (h : r L < hn) : cdr hn r (L + 1) / hn = cdr hn r L ∧ cdr hn r (L + 1) % hn = r L := by
  simp only [cdr]
  rw [Nat.mul_comm]
  exact ⟨by rw [Nat.mul_add_div (by omega), Nat.div_eq_of_lt h, Nat.add_zero], by rw [Nat.mul_add_mod]; exact Nat.mod_eq_of_lt h⟩
theorem cdr_eq {hn : Nat} {r r' : Rw} : ∀ L, (∀ i, i < L → r i < hn) → (∀ i, i < L → r' i < hn) → cdr hn r L = cdr hn r' L → ∀ i, i < L → r i = r' i
  | 0, _, _, _ => fun i hi => by omega
  | L + 1, e, e', c => by
    obtain ⟨a1, a2⟩ := cdr_dm (e L (by omega))
    obtain ⟨b1, b2⟩ := cdr_dm (e' L (by omega))
    have ih := cdr_eq L (fun i hi => e i (by omega)) (fun i hi => e' i (by omega)) (by rw [← a1, ← b1, c])
    intro i hi
    by_cases z : i = L
    · rw [z, ← a2, ← b2, c]
    · exact ih i (by omega)
theorem cdr_lex {hn : Nat} {r r' : Rw} : ∀ L, (∀ i, i < L → r i < hn) → (∀ i, i < L → r' i < hn) → cdr hn r L < cdr hn r' L → lexlt r r' L
  | 0, _, _, c => by simp [cdr] at c
  | L + 1, e, e', c => by
    have x1 := e L (by omega)
    have x2 := e' L (by omega)
    rcases Nat.lt_trichotomy (cdr hn r L) (cdr hn r' L) with q | q | q
    · obtain ⟨j, j1, j2, j3⟩ := cdr_lex L (fun i hi => e i (by omega)) (fun i hi => e' i (by omega)) q
      exact ⟨j, by omega, j2, j3⟩
    · have := cdr_eq L (fun i hi => e i (by omega)) (fun i hi => e' i (by omega)) q
      refine ⟨L, by omega, this, ?_⟩
      simp only [cdr] at c
      rw [q] at c
      omega
    · exfalso
      simp only [cdr] at c
      have : (cdr hn r' L + 1) * hn ≤ cdr hn r L * hn := Nat.mul_le_mul_right hn q
      rw [Nat.add_mul, Nat.one_mul] at this
      omega
/-- the row of a number -/
def digs (hn : Nat) : Nat → Nat → Rw
  | 0, _ => fun _ => 0
  | L + 1, c => fun i => if i = L then c % hn else digs hn L (c / hn) i
theorem digs_lt {hn : Nat} (h : 0 < hn) : ∀ L c i, digs hn L c i < hn
  | 0, _, _ => h
  | L + 1, c, i => by simp only [digs]; split; exact Nat.mod_lt _ h; exact digs_lt h L _ _
theorem digs_cdr {hn : Nat} (h : 0 < hn) : ∀ L c, c < hn ^ L → cdr hn (digs hn L c) L = c
  | 0, c, hc => by simp at hc; simp [cdr, hc]
  | L + 1, c, hc => by
    have h1 : c / hn < hn ^ L := by rw [Nat.pow_succ, Nat.mul_comm] at hc; exact Nat.div_lt_of_lt_mul hc
    have h2 := digs_cdr h L (c / hn) h1
    have h3 : ∀ k, k ≤ L → cdr hn (digs hn (L + 1) c) k = cdr hn (digs hn L (c / hn)) k := by
      intro k
      induction k with
      | zero => intro _; rfl
      | succ k ih => intro hk; simp only [cdr]; rw [ih (by omega)]; simp only [digs]; rw [if_neg (by omega)]
    show cdr hn (digs hn (L + 1) c) L * hn + digs hn (L + 1) c L = c
    rw [h3 L (Nat.le_refl _), h2]
    simp only [digs, if_true]
    rw [Nat.mul_comm]
    exact Nat.div_add_mod c hn
end BR
