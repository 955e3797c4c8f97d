/-! TABLES OF SLOTS: a place is sought from its own slot on, one behind the other -/
def HT (N : Nat) (tb : Nat → Int32) (hf cd : Nat → Nat) (n : Nat) : Prop := (∀ s, s < N → ∃ v, v ≤ n ∧ tb s = nI v) ∧ cnS (fun s => decide (¬ tb s = 0)) N = n ∧ ∀ x, x < n → ∃ d, d < N ∧ tb ((hf (cd x) + d) % N) = nI (x + 1) ∧ ∀ e, e < d → ¬ tb ((hf (cd x) + e) % N) = 0
def HitAt (N : Nat) (tb : Nat → Int32) (cd : Nat → Nat) (n c s0 d : Nat) : Prop := ∀ e, e < d → ∃ v, 1 ≤ v ∧ v ≤ n ∧ tb ((s0 + e) % N) = nI v ∧ ¬ cd (v - 1) = c
section HTS
variable {N n : Nat} {tb : Nat → Int32} {hf cd : Nat → Nat}
theorem cnS_all {S : Nat → Bool} : ∀ n, (∀ i, i < n → S i = true) → cnS S n = n
  | 0, _ => rfl
  | n + 1, e => by simp only [cnS]; rw [cnS_all n (fun i hi => e i (by omega)), if_pos (e n (by omega))]
theorem HT.free (H : HT N tb hf cd n) (hn : n < N) (s0 : Nat) : ∃ d, d < N ∧ tb ((s0 + d) % N) = 0 := by
  have : ∃ s, s < N ∧ tb s = 0 := by
    apply Classical.byContradiction
    intro no
    have := cnS_all (S := fun s => decide (¬ tb s = 0)) N (fun i hi => by
      rw [decide_eq_true_eq]
      intro z
      exact no ⟨i, hi, z⟩)
    rw [H.2.1] at this
    omega
  obtain ⟨s, hs, z⟩ := this
  refine ⟨(s + (N - s0 % N)) % N, Nat.mod_lt _ (by omega), ?_⟩
  have hm : s0 % N < N := Nat.mod_lt _ (by omega)
  have : (s0 + (s + (N - s0 % N)) % N) % N = s := by
    rw [Nat.add_mod, Nat.mod_mod, ← Nat.add_mod, show s0 + (s + (N - s0 % N)) = (s + N) + (s0 - s0 % N) by have := Nat.mod_le s0 N; omega]
    have e2 : s0 - s0 % N = N * (s0 / N) := by have := Nat.div_add_mod s0 N; omega
    rw [e2, Nat.add_mul_mod_self_left, Nat.add_mod_right]
    exact Nat.mod_eq_of_lt hs
  rw [this]; exact z
theorem HT.probe (H : HT N tb hf cd n) (hn : n < N) (hb : n < 2 ^ 30) (c : Nat) : (∃ x, x < n ∧ cd x = c ∧ ∃ d, d < N ∧ tb ((hf c + d) % N) = nI (x + 1) ∧ HitAt N tb cd n c (hf c) d) ∨ ((∀ x, x < n → ¬ cd x = c) ∧ ∃ d, d < N ∧ tb ((hf c + d) % N) = 0 ∧ HitAt N tb cd n c (hf c) d) := by
  obtain ⟨d0, f1, f2⟩ := H.free hn (hf c)
  obtain ⟨d, ⟨d1, d2⟩, d3⟩ := pk_least (fun d => d < N ∧ (tb ((hf c + d) % N) = 0 ∨ ∃ v, 1 ≤ v ∧ v ≤ n ∧ tb ((hf c + d) % N) = nI v ∧ cd (v - 1) = c)) ⟨d0, f1, Or.inl f2⟩
  have hit : HitAt N tb cd n c (hf c) d := by
    intro e he
    have ne := d3 e he
    obtain ⟨v, v1, v2⟩ := H.1 ((hf c + e) % N) (Nat.mod_lt _ (by omega))
    have v0 : 1 ≤ v := by
      rcases Nat.eq_zero_or_pos v with z | z
      · subst z; exact absurd ⟨by omega, Or.inl v2⟩ ne
      · exact z
    exact ⟨v, v0, v1, v2, fun z => ne ⟨by omega, Or.inr ⟨v, v0, v1, v2, z⟩⟩⟩
  rcases d2 with z | ⟨v, v1, v2, v3, v4⟩
  · refine Or.inr ⟨fun x hx e => ?_, d, d1, z, hit⟩
    obtain ⟨dx, x1, x2, x3⟩ := H.2.2 x hx
    rw [e] at x2 x3
    rcases Nat.lt_trichotomy dx d with q | q | q
    · exact d3 dx q ⟨x1, Or.inr ⟨x + 1, by omega, by omega, x2, by rw [Nat.add_sub_cancel]; exact e⟩⟩
    · subst q; rw [z] at x2; exact nI_ne0 (by omega) (by omega) x2.symm
    · exact x3 d q z
  · refine Or.inl ⟨v - 1, by omega, v4, d, d1, ?_, hit⟩
    rw [v3, Nat.sub_add_cancel v1]
theorem cnS_ins {S S' : Nat → Bool} {z : Nat} (e : ∀ i, ¬ i = z → S' i = S i) (s0 : S z = false) (s1 : S' z = true) : ∀ n, z < n → cnS S' n = cnS S n + 1
  | 0, h => by omega
  | n + 1, h => by
    by_cases q : z = n
    · subst q
      simp only [cnS]
      rw [if_pos s1, s0, cnS_cong z (fun i hi => e i (by omega))]
      simp
    · simp only [cnS]
      rw [cnS_ins e s0 s1 n (by omega), e n (fun w => q w.symm)]
      omega
theorem HT.ins (H : HT N tb hf cd n) (hb : n < 2 ^ 30) {c d : Nat} (hd : d < N) (z : tb ((hf c + d) % N) = 0) (hit : HitAt N tb cd n c (hf c) d) {tb' : Nat → Int32} {cd' : Nat → Nat} (et : ∀ s, tb' s = if s = (hf c + d) % N then nI (n + 1) else tb s) (ec : ∀ x, x < n → cd' x = cd x) (ec' : cd' n = c) : HT N tb' hf cd' (n + 1) := by
  obtain ⟨h1, h2, h3⟩ := H
  have sl : (hf c + d) % N < N := Nat.mod_lt _ (by omega)
  have nz : ¬ nI (n + 1) = 0 := nI_ne0 (by omega) (by omega)
  refine ⟨fun s hs => ?_, ?_, fun x hx => ?_⟩
  · rw [et]
    by_cases q : s = (hf c + d) % N
    · rw [if_pos q]; exact ⟨n + 1, Nat.le_refl _, rfl⟩
    · rw [if_neg q]
      obtain ⟨v, v1, v2⟩ := h1 s hs
      exact ⟨v, by omega, v2⟩
  · have := cnS_ins (S := fun s => decide (¬ tb s = 0)) (S' := fun s => decide (¬ tb' s = 0)) (z := (hf c + d) % N) (fun i hi => by rw [et, if_neg hi]) (by simp [z]) (by rw [et, if_pos rfl]; exact decide_eq_true nz) N sl
    rw [this, h2]
  · by_cases q : x = n
    · subst q
      rw [ec']
      refine ⟨d, hd, by rw [et, if_pos rfl], fun e he => ?_⟩
      obtain ⟨v, v1, v2, v3, _⟩ := hit e he
      rw [et]
      by_cases w : (hf c + e) % N = (hf c + d) % N
      · rw [if_pos w]; exact nz
      · rw [if_neg w, v3]; exact nI_ne0 (by omega) (by omega)
    · rw [ec x (by omega)]
      obtain ⟨dx, x1, x2, x3⟩ := h3 x (by omega)
      refine ⟨dx, x1, ?_, fun e he => ?_⟩
      · rw [et, if_neg (fun w => ?_)]
        · exact x2
        · rw [w, z] at x2; exact nI_ne0 (by omega) (by omega) x2.symm
      · rw [et]
        by_cases w : (hf (cd x) + e) % N = (hf c + d) % N
        · rw [if_pos w]; exact nz
        · rw [if_neg w]; exact x3 e he
theorem HT.nil (h : ∀ s, s < N → tb s = 0) : HT N tb hf cd 0 := by
  refine ⟨fun s hs => ⟨0, Nat.le_refl _, h s hs⟩, ?_, fun x hx => absurd hx (by omega)⟩
  have : ∀ n, n ≤ N → cnS (fun s => decide (¬ tb s = 0)) n = 0 := by
    intro n
    induction n with
    | zero => intro _; rfl
    | succ n ih => intro hn; simp only [cnS]; rw [ih (by omega)]; simp [h n (by omega)]
  exact this N (Nat.le_refl _)
end HTS
/-! PLACES: states of both talks, what is on the way to either -/
abbrev Pl := Nat × Nat × Nat × Nat
def plOK (p : Pl) : Prop := p.1 ≤ 24 ∧ p.2.1 ≤ 24 ∧ p.2.2.1 ≤ 72 ∧ p.2.2.2 ≤ 72
def qC (u : Nat) : Nat := if u < 9 then u else ((u - 9) / 8 + 1) + 16 * ((u - 9) % 8 + 1)
def cC (p : Pl) : Nat := p.1 + 32 * p.2.1 + 1024 * qC p.2.2.1 + 262144 * qC p.2.2.2
def cM (p : Pl) : Nat := ((p.1 * 25 + p.2.1) * 73 + p.2.2.1) * 73 + p.2.2.2
def c0 (p : Pl) : Nat := 25 * p.1 + p.2.1
theorem qC_lt {u : Nat} (h : u ≤ 72) : qC u < 256 := by unfold qC; split <;> omega
theorem qC_inj {u v : Nat} (hu : u ≤ 72) (hv : v ≤ 72) (e : qC u = qC v) : u = v := by
  unfold qC at e
  split at e <;> split at e <;> omega
theorem cC_inj {p q : Pl} (hp : plOK p) (hq : plOK q) (e : cC p = cC q) : p = q := by
  obtain ⟨a1, a2, a3, a4⟩ := hp
  obtain ⟨b1, b2, b3, b4⟩ := hq
  have u1 := qC_lt a3
  have u2 := qC_lt a4
  have u3 := qC_lt b3
  have u4 := qC_lt b4
  unfold cC at e
  have e1 : p.1 = q.1 := by omega
  have e2 : p.2.1 = q.2.1 := by omega
  have e3 : qC p.2.2.1 = qC q.2.2.1 := by omega
  have e4 : qC p.2.2.2 = qC q.2.2.2 := by omega
  exact Prod.ext e1 (Prod.ext e2 (Prod.ext (qC_inj a3 b3 e3) (qC_inj a4 b4 e4)))
theorem cM_inj {p q : Pl} (hp : plOK p) (hq : plOK q) (e : cM p = cM q) : p = q := by
  obtain ⟨a1, a2, a3, a4⟩ := hp
  obtain ⟨b1, b2, b3, b4⟩ := hq
  unfold cM at e
  exact Prod.ext (by omega) (Prod.ext (by omega) (Prod.ext (by omega) (by omega)))
theorem c0_inj {p q : Pl} (hp : plOK p) (hq : plOK q) (zp : p.2.2.1 = 0 ∧ p.2.2.2 = 0) (zq : q.2.2.1 = 0 ∧ q.2.2.2 = 0) (e : c0 p = c0 q) : p = q := by
  obtain ⟨a1, a2, a3, a4⟩ := hp
  obtain ⟨b1, b2, b3, b4⟩ := hq
  unfold c0 at e
  exact Prod.ext (by omega) (Prod.ext (by omega) (Prod.ext (by omega) (by omega)))
theorem cC_lt {p : Pl} (hp : plOK p) : cC p < 2 ^ 26 := by
  have u1 := qC_lt hp.2.2.1
  have u2 := qC_lt hp.2.2.2
  obtain ⟨a1, a2, a3, a4⟩ := hp
  unfold cC
  omega
theorem cM_lt {p : Pl} (hp : plOK p) : cM p < 2 ^ 22 := by
  obtain ⟨a1, a2, a3, a4⟩ := hp
  unfold cM
  omega
/-- a walk: how many places, whether the room is spent; the places, from where and by which act each was come to -/
abbrev WSt := (Nat × Bool) × (Nat → Pl) × (Nat → Nat) × (Nat → Nat)
def inL (S : WSt) (p : Pl) : Bool := (List.range S.1.1).any (fun x => decide (S.2.1 x = p))
def rch (S : WSt) (p : Pl) (par act : Nat) : WSt := if inL S p = true then S else if S.1.1 < 4000 then ((S.1.1 + 1, S.1.2), (fun x => if x = S.1.1 then p else S.2.1 x), (fun x => if x = S.1.1 then par else S.2.2.1 x), (fun x => if x = S.1.1 then act else S.2.2.2 x)) else ((S.1.1, true), S.2)
theorem inL_iff {S : WSt} {p : Pl} : inL S p = true ↔ ∃ x, x < S.1.1 ∧ S.2.1 x = p := by
  unfold inL
  rw [List.any_eq_true]
  constructor
  · rintro ⟨x, x1, x2⟩; exact ⟨x, List.mem_range.mp x1, of_decide_eq_true x2⟩
  · rintro ⟨x, x1, x2⟩; exact ⟨x, List.mem_range.mpr x1, decide_eq_true x2⟩
/-- a walk that is sound: no place twice, each place one, the room spent only when it is -/
def WOK (S : WSt) : Prop := S.1.1 ≤ 4000 ∧ (∀ x, x < S.1.1 → plOK (S.2.1 x)) ∧ (∀ x y, x < S.1.1 → y < S.1.1 → S.2.1 x = S.2.1 y → x = y) ∧ (S.1.2 = true → S.1.1 = 4000) ∧ ∀ x, 0 < x → x < S.1.1 → S.2.2.1 x < x ∧ S.2.2.2 x < 18
theorem wok_rch {S : WSt} (w : WOK S) {p : Pl} {par act : Nat} (hp : plOK p) (h1 : 0 < S.1.1 → par < S.1.1 ∧ act < 18) : WOK (rch S p par act) := by
  obtain ⟨w1, w2, w3, w4, w5⟩ := w
  unfold rch
  by_cases q : inL S p = true
  · rw [if_pos q]; exact ⟨w1, w2, w3, w4, w5⟩
  · rw [if_neg q]
    have no : ∀ x, x < S.1.1 → ¬ S.2.1 x = p := fun x hx e => q (inL_iff.mpr ⟨x, hx, e⟩)
    by_cases r : S.1.1 < 4000
    · rw [if_pos r]
      refine ⟨by dsimp only; omega, fun x hx => ?_, fun x y hx hy e => ?_, fun z => ?_, fun x h0 hx => ?_⟩
      · dsimp only at hx ⊢
        by_cases z : x = S.1.1
        · rw [if_pos z]; exact hp
        · rw [if_neg z]; exact w2 x (by omega)
      · dsimp only at hx hy e
        by_cases z : x = S.1.1
        · by_cases z' : y = S.1.1
          · omega
          · rw [if_pos z, if_neg z'] at e; exact absurd e.symm (no y (by omega))
        · by_cases z' : y = S.1.1
          · rw [if_neg z, if_pos z'] at e; exact absurd e (no x (by omega))
          · rw [if_neg z, if_neg z'] at e; exact w3 x y (by omega) (by omega) e
      · have := w4 z; omega
      · dsimp only at hx ⊢
        by_cases z : x = S.1.1
        · rw [if_pos z, if_pos z]; have := h1 (by omega); omega
        · rw [if_neg z, if_neg z]; exact w5 x h0 (by omega)
    · rw [if_neg r]
      exact ⟨w1, w2, w3, fun _ => by dsimp only; omega, w5⟩
theorem rch_n {S : WSt} {p : Pl} {par act : Nat} : S.1.1 ≤ (rch S p par act).1.1 := by
  unfold rch
  split
  · exact Nat.le_refl _
  · split
    · exact Nat.le_succ _
    · exact Nat.le_refl _
