/-! ADAPTERS, pure: what stands behind the class's tries and the reference's walks -/
theorem cnS_sub {N : Nat} : ∀ (w : Nat) (f g : Nat → Bool) (φ : Nat → Nat), (∀ k, k < w → f k = true → φ k < N ∧ g (φ k) = true) → (∀ k k', k < w → k' < w → f k = true → f k' = true → φ k = φ k' → k = k') → cnS f w ≤ cnS g N
  | 0, _, _, _, _, _ => Nat.zero_le _
  | w + 1, f, g, φ, h1, h2 => by
    by_cases q : f w = true
    · obtain ⟨q1, q2⟩ := h1 w (by omega) q
      have e : cnS g N = cnS (fun x => g x && !decide (x = φ w)) N + 1 := cnS_ins (z := φ w) (fun i hi => by simp [hi]) (by simp) q2 N q1
      have ih := cnS_sub w f (fun x => g x && !decide (x = φ w)) φ (fun k hk hf => by
        obtain ⟨a, b⟩ := h1 k (by omega) hf
        refine ⟨a, ?_⟩
        have ne : ¬ φ k = φ w := fun z => by have := h2 k w (by omega) (by omega) hf q z; omega
        simp [b, ne]) (fun k k' a b c d e => h2 k k' (by omega) (by omega) c d e)
      simp only [cnS]
      rw [if_pos q, e]
      omega
    · have ih := cnS_sub w f g φ (fun k hk hf => h1 k (by omega) hf) (fun k k' a b c d e => h2 k k' (by omega) (by omega) c d e)
      simp only [cnS]
      rw [if_neg q]
      omega
theorem cnS_0 {S : Nat → Bool} : ∀ n, (∀ i, i < n → S i = false) → cnS S n = 0
  | 0, _ => rfl
  | n + 1, h => by simp only [cnS]; rw [cnS_0 n (fun i hi => h i (by omega)), h n (by omega)]; rfl
theorem cnS_0i {S : Nat → Bool} : ∀ n, cnS S n = 0 → ∀ i, i < n → S i = false
  | 0, _, i, hi => by omega
  | n + 1, h, i, hi => by
    simp only [cnS] at h
    by_cases q : S n = true
    · rw [if_pos q] at h; omega
    · rw [if_neg q] at h
      by_cases e : i = n
      · subst e; simpa using q
      · exact cnS_0i n (by omega) i (by omega)
/-- the used messages in their order -/
def MsOK (U w : Nat) (ms : Nat → Nat) : Prop := w = cnS (fun m => U.testBit m) 8 ∧ ∀ k, k < w → ms k < 8 ∧ U.testBit (ms k) = true ∧ cnS (fun m => U.testBit m) (ms k) = k
theorem ms_ex (U : Nat) : ∃ ms, MsOK U (cnS (fun m => U.testBit m) 8) ms := by
  have h : ∀ k, ∃ m, k < cnS (fun m => U.testBit m) 8 → m < 8 ∧ U.testBit m = true ∧ cnS (fun m => U.testBit m) m = k := by
    intro k
    by_cases q : k < cnS (fun m => U.testBit m) 8
    · obtain ⟨m, a, b, c⟩ := cnS_find (fun m => U.testBit m) 8 k q
      exact ⟨m, fun _ => ⟨a, b, c⟩⟩
    · exact ⟨0, fun z => absurd z q⟩
  exact ⟨fun k => Classical.choose (h k), rfl, fun k hk => Classical.choose_spec (h k) hk⟩
section MS
variable {U w : Nat} {ms : Nat → Nat}
theorem MsOK.inj (M : MsOK U w ms) {k k' : Nat} (h : k < w) (h' : k' < w) (e : ms k = ms k') : k = k' := by
  have a := (M.2 k h).2.2
  have b := (M.2 k' h').2.2
  rw [e] at a
  omega
theorem MsOK.rk (M : MsOK U w ms) {m : Nat} (hm : m < 8) (q : U.testBit m = true) : cnS (fun m => U.testBit m) m < w ∧ ms (cnS (fun m => U.testBit m) m) = m := by
  have l : cnS (fun m => U.testBit m) m < w := by
    rw [M.1]
    have := cnS_mono (fun m => U.testBit m) (show m + 1 ≤ 8 by omega)
    have e : cnS (fun m => U.testBit m) (m + 1) = cnS (fun m => U.testBit m) m + 1 := by simp only [cnS]; rw [if_pos q]
    omega
  obtain ⟨a, b, c⟩ := M.2 _ l
  exact ⟨l, cnS_uni (S := fun m => U.testBit m) b q c⟩
end MS
def Inj (d : Nat → Nat) (w : Nat) : Prop := ∀ i j, i < j → j < w → ¬ d i = d j
/-- where a message of b comes from, what a message of a becomes -/
def oO (ms d : Nat → Nat) : Nat → Nat → Int32
  | 0, _ => -1
  | k + 1, z => if d k = z then nI (ms k) else oO ms d k z
def bB (ms d : Nat → Nat) : Nat → Nat → Int32
  | 0, _ => -1
  | k + 1, z => if ms k = z then nI (d k) else bB ms d k z
def sOd (s : Mc) (ms d : Nat → Nat) (w : Nat) : Mc := fun i z => if oO ms d w z = -1 then -1 else s i (tN (oO ms d w z))
theorem oO_r (ms d : Nat → Nat) (z : Nat) : ∀ w, (oO ms d w z = -1 ∧ ∀ k, k < w → ¬ d k = z) ∨ ∃ k, k < w ∧ d k = z ∧ oO ms d w z = nI (ms k)
  | 0 => Or.inl ⟨rfl, fun k hk => by omega⟩
  | w + 1 => by
    by_cases q : d w = z
    · exact Or.inr ⟨w, by omega, q, if_pos q⟩
    · rw [show oO ms d (w + 1) z = oO ms d w z from if_neg q]
      rcases oO_r ms d z w with ⟨a, b⟩ | ⟨k, a, b, c⟩
      · refine Or.inl ⟨a, fun k hk => ?_⟩
        by_cases e : k = w
        · rw [e]; exact q
        · exact b k (by omega)
      · exact Or.inr ⟨k, by omega, b, c⟩
theorem oO_at {ms d : Nat → Nat} : ∀ {w : Nat}, Inj d w → ∀ k, k < w → oO ms d w (d k) = nI (ms k)
  | 0, _, k, hk => by omega
  | w + 1, I, k, hk => by
    by_cases e : k = w
    · rw [e]; exact if_pos rfl
    · rw [show oO ms d (w + 1) (d k) = oO ms d w (d k) from if_neg (fun z => I k w (by omega) (by omega) z.symm)]
      exact oO_at (fun i j a b => I i j a (by omega)) k (by omega)
theorem tN_nI {v : Nat} (h : v < 2 ^ 31) : tN (nI v) = v := nI_clamp h
section OO
variable {s : Mc} {ms d : Nat → Nat} {w : Nat}
theorem sOd_at (I : Inj d w) (m8 : ∀ k, k < w → ms k < 8) (i : Nat) {k : Nat} (hk : k < w) : sOd s ms d w i (d k) = s i (ms k) := by
  unfold sOd
  have := m8 k hk
  rw [oO_at I k hk, if_neg (nI_nm1 (by omega)), tN_nI (by omega)]
theorem sOd_from (m8 : ∀ k, k < w → ms k < 8) {i z : Nat} (h : ¬ sOd s ms d w i z = -1) : ∃ k, k < w ∧ d k = z ∧ sOd s ms d w i z = s i (ms k) := by
  unfold sOd at h ⊢
  rcases oO_r ms d z w with ⟨a, b⟩ | ⟨k, a, b, c⟩
  · rw [if_pos a] at h; exact absurd rfl h
  · have := m8 k a
    refine ⟨k, a, b, ?_⟩
    rw [c, if_neg (nI_nm1 (by omega)), tN_nI (by omega)]
end OO
theorem fnd0_iff {sA hA sB hB : Mc} {eA eB : Nat → Int32} (p : Pl) : fnd0 sA hA sB hB eA eB p = 0 ↔ ((∀ z, z < 8 → (¬ sA p.1 z = -1 → ¬ hB p.2.1 z = -1) ∧ (¬ sB p.2.1 z = -1 → ¬ hA p.1 z = -1)) ∧ ((∃ z, z < 8 ∧ ¬ sA p.1 z = -1) ∨ (∃ z, z < 8 ∧ ¬ sB p.2.1 z = -1) ∨ (eA p.1 = 1 ∧ eB p.2.1 = 1))) := by
  have u := unh_iff sA hA sB hB p 8
  have v := mvd_iff sA hA sB hB p 8
  unfold fnd0
  by_cases a : unh sA hA sB hB p 8 = true
  · rw [if_pos a]
    obtain ⟨k, k8, q⟩ := u.mp a
    constructor
    · intro z; exact absurd z (by decide)
    · rintro ⟨z1, _⟩
      rcases q with ⟨q1, q2⟩ | ⟨q1, q2⟩
      · exact absurd q2 ((z1 k k8).1 q1)
      · exact absurd q2 ((z1 k k8).2 q1)
  · rw [if_neg a]
    have all : ∀ z, z < 8 → (¬ sA p.1 z = -1 → ¬ hB p.2.1 z = -1) ∧ (¬ sB p.2.1 z = -1 → ¬ hA p.1 z = -1) := fun z z8 => ⟨fun q1 q2 => a (u.mpr ⟨z, z8, Or.inl ⟨q1, q2⟩⟩), fun q1 q2 => a (u.mpr ⟨z, z8, Or.inr ⟨q1, q2⟩⟩)⟩
    by_cases b : mvd sA hA sB hB p 8 = true
    · rw [if_pos b]
      obtain ⟨k, k8, q⟩ := v.mp b
      refine ⟨fun _ => ⟨all, ?_⟩, fun _ => rfl⟩
      rcases q with ⟨q1, _⟩ | ⟨q1, _⟩
      · exact Or.inl ⟨k, k8, q1⟩
      · exact Or.inr (Or.inl ⟨k, k8, q1⟩)
    · rw [if_neg b]
      by_cases c : eA p.1 = 1 ∧ eB p.2.1 = 1
      · rw [if_pos c]; exact ⟨fun _ => ⟨all, Or.inr (Or.inr c)⟩, fun _ => rfl⟩
      · rw [if_neg c]
        refine ⟨fun z => absurd z (by decide), fun ⟨z1, z2⟩ => ?_⟩
        exfalso
        rcases z2 with ⟨z, z8, q⟩ | ⟨z, z8, q⟩ | q
        · exact b (v.mpr ⟨z, z8, Or.inl ⟨q, (z1 z z8).1 q⟩⟩)
        · exact b (v.mpr ⟨z, z8, Or.inr ⟨q, (z1 z z8).2 q⟩⟩)
        · exact c q
/-- no fault can be come to -/
def Gd (sA hA sB hB : Mc) (eA eB : Nat → Int32) : Prop := ∃ I : Nat → Nat → Prop, I 0 0 ∧ ∀ i j, I i j → fnd0 sA hA sB hB eA eB (i, j, 0, 0) = 0 ∧ (∀ z, z < 8 → ¬ sA i z = -1 → ¬ hB j z = -1 → I (tN (sA i z)) (tN (hB j z))) ∧ ∀ z, z < 8 → ¬ sB j z = -1 → ¬ hA i z = -1 → I (tN (hA i z)) (tN (sB j z))
theorem Gd.cong {sA hA sA' hA' sB hB : Mc} {eA eB : Nat → Int32} (G : Gd sA hA sB hB eA eB) (e1 : ∀ i z, z < 8 → sA' i z = sA i z) (e2 : ∀ i z, z < 8 → hA' i z = hA i z) : Gd sA' hA' sB hB eA eB := by
  obtain ⟨I, I0, I1⟩ := G
  refine ⟨I, I0, fun i j q => ?_⟩
  obtain ⟨a, b, c⟩ := I1 i j q
  refine ⟨?_, fun z z8 p1 p2 => ?_, fun z z8 p1 p2 => ?_⟩
  · have a := (fnd0_iff _).mp a
    refine (fnd0_iff _).mpr ⟨fun z z8 => ?_, ?_⟩
    · show (¬ sA' i z = -1 → _) ∧ (_ → ¬ hA' i z = -1)
      rw [e1 i z z8, e2 i z z8]; exact a.1 z z8
    · rcases a.2 with ⟨z, z8, q⟩ | q
      · refine Or.inl ⟨z, z8, ?_⟩
        show ¬ sA' i z = -1
        rw [e1 i z z8]; exact q
      · exact Or.inr q
  · rw [e1 i z z8] at p1 ⊢; exact b z z8 p1 p2
  · rw [e2 i z z8] at p2 ⊢; exact c z z8 p1 p2
/-- a step that the messages placed so far allow, and what is come to by such -/
def StpA (sA hA sB hB : Mc) (ms d : Nat → Nat) (k0 i j i' j' : Nat) : Prop := ∃ k, k < k0 ∧ ((¬ sA i (ms k) = -1 ∧ ¬ hB j (d k) = -1 ∧ i' = tN (sA i (ms k)) ∧ j' = tN (hB j (d k))) ∨ (¬ hA i (ms k) = -1 ∧ ¬ sB j (d k) = -1 ∧ i' = tN (hA i (ms k)) ∧ j' = tN (sB j (d k))))
def Rp (sA hA sB hB : Mc) (ms d : Nat → Nat) (k0 i j : Nat) : Prop := ∀ I : Nat → Nat → Prop, I 0 0 → (∀ i j i' j', I i j → StpA sA hA sB hB ms d k0 i j i' j' → I i' j') → I i j
def tkn (d : Nat → Nat) (k0 z : Nat) : Bool := (List.range k0).any (fun k => decide (d k = z))
theorem tkn_iff {d : Nat → Nat} {k0 z : Nat} : tkn d k0 z = true ↔ ∃ k, k < k0 ∧ d k = z := by
  unfold tkn
  rw [List.any_eq_true]
  constructor
  · rintro ⟨k, a, b⟩
    exact ⟨k, List.mem_range.mp a, by simpa using b⟩
  · rintro ⟨k, a, b⟩
    exact ⟨k, List.mem_range.mpr a, by simpa using b⟩
def AgAt (sA hA sB hB : Mc) (eA eB : Nat → Int32) (w : Nat) (ms d : Nat → Nat) (k0 i j : Nat) : Prop :=
  (∀ k, k < k0 → ¬ sA i (ms k) = -1 → ¬ hB j (d k) = -1) ∧
  (∀ z, z < 8 → ¬ sB j z = -1 → tkn d k0 z = true → ∃ k, k < k0 ∧ d k = z ∧ ¬ hA i (ms k) = -1) ∧
  cnS (fun k => decide (k0 ≤ k) && decide (¬ sA i (ms k) = -1)) w ≤ cnS (fun z => decide (¬ hB j z = -1) && !tkn d k0 z) 8 ∧
  cnS (fun z => decide (¬ sB j z = -1) && !tkn d k0 z) 8 ≤ cnS (fun k => decide (k0 ≤ k) && decide (¬ hA i (ms k) = -1)) w ∧
  ((∃ k, k < 8 ∧ ¬ sA i k = -1) ∨ (∃ k, k < 8 ∧ ¬ sB j k = -1) ∨ (eA i = 1 ∧ eB j = 1))
def AllAg (sA hA sB hB : Mc) (eA eB : Nat → Int32) (w : Nat) (ms d : Nat → Nat) (k0 : Nat) : Prop := ∀ i j, Rp sA hA sB hB ms d k0 i j → AgAt sA hA sB hB eA eB w ms d k0 i j
section GA
variable {sA hA sB hB : Mc} {eA eB : Nat → Int32} {n m w : Nat} {ms d D : Nat → Nat} {k0 : Nat}
theorem Rp.z : Rp sA hA sB hB ms d k0 0 0 := fun I h0 _ => h0
theorem Rp.s {i j i' j' : Nat} (r : Rp sA hA sB hB ms d k0 i j) (s : StpA sA hA sB hB ms d k0 i j i' j') : Rp sA hA sB hB ms d k0 i' j' := fun I h0 h1 => h1 _ _ _ _ (r I h0 h1) s
theorem stp_in (M : MCh n m sA hA sB hB) (m8 : ∀ k, k < w → ms k < 8) (d8 : ∀ k, k < k0 → d k < 8) (hk : k0 ≤ w) (hn : n ≤ 24) (hm : m ≤ 24) {i j i' j' : Nat} (hi : i ≤ n) (hj : j ≤ m) (s : StpA sA hA sB hB ms d k0 i j i' j') : i' ≤ n ∧ j' ≤ m := by
  obtain ⟨k, a, b⟩ := s
  have a1 := mc_A M hi (m8 k (by omega)) hn
  have a2 := mc_B M hj (d8 k a) hm
  rcases b with ⟨b1, b2, b3, b4⟩ | ⟨b1, b2, b3, b4⟩
  · rw [b3, b4]; exact ⟨(a1.1 b1).1, (a2.2 b2).1⟩
  · rw [b3, b4]; exact ⟨(a1.2 b1).1, (a2.1 b2).1⟩
theorem goodB (M : MCh n m sA hA sB hB) (hU : ∀ i, i ≤ n → ∀ k, k < 8 → (¬ sA i k = -1 ∨ ¬ hA i k = -1) → ∃ q, q < w ∧ ms q = k) (m8 : ∀ k, k < w → ms k < 8) (mi : ∀ k k', k < w → k' < w → ms k = ms k' → k = k') (D8 : ∀ k, k < w → D k < 8) (hk : k0 ≤ w) (hn : n ≤ 24) (hm : m ≤ 24) (I : Inj D w) (e : ∀ k, k < k0 → D k = d k) (G : Gd (sOd sA ms D w) (sOd hA ms D w) sB hB eA eB) : AllAg sA hA sB hB eA eB w ms d k0 := by
  obtain ⟨J, J0, J1⟩ := G
  have d8 : ∀ k, k < k0 → d k < 8 := fun k hk' => by rw [← e k hk']; exact D8 k (by omega)
  intro i j r
  have hIn : J i j ∧ i ≤ n ∧ j ≤ m := by
    refine r (fun i j => J i j ∧ i ≤ n ∧ j ≤ m) ⟨J0, Nat.zero_le _, Nat.zero_le _⟩ (fun i j i' j' ⟨q1, q2, q3⟩ s => ⟨?_, stp_in M m8 d8 hk hn hm q2 q3 s⟩)
    obtain ⟨k, a, b⟩ := s
    have kw : k < w := by omega
    obtain ⟨-, c1, c2⟩ := J1 i j q1
    rcases b with ⟨b1, b2, b3, b4⟩ | ⟨b1, b2, b3, b4⟩
    · have := c1 (D k) (D8 k kw)
      rw [sOd_at I m8 i kw, e k a] at this
      rw [b3, b4]; exact this b1 b2
    · have := c2 (D k) (D8 k kw)
      rw [sOd_at I m8 i kw, e k a] at this
      rw [b3, b4]; exact this b2 b1
  obtain ⟨q1, q2, q3⟩ := hIn
  obtain ⟨f0, -, -⟩ := J1 i j q1
  obtain ⟨al, an⟩ := (fnd0_iff _).mp f0
  have al1 : ∀ k, k < w → ¬ sA i (ms k) = -1 → ¬ hB j (D k) = -1 := fun k kw q => by
    have := (al (D k) (D8 k kw)).1
    rw [show sOd sA ms D w (i, j, 0, 0).1 (D k) = sA i (ms k) from sOd_at I m8 i kw] at this
    exact this q
  have al2 : ∀ z, z < 8 → ¬ sB j z = -1 → ∃ k, k < w ∧ D k = z ∧ ¬ hA i (ms k) = -1 := fun z z8 q => by
    have h1 := (al z z8).2 q
    obtain ⟨k, a, b, c⟩ := sOd_from (s := hA) m8 h1
    exact ⟨k, a, b, by rw [← c]; exact h1⟩
  have tk : ∀ k, k < w → (tkn d k0 (D k) = true ↔ k < k0) := by
    intro k kw
    rw [tkn_iff]
    constructor
    · rintro ⟨k', a, b⟩
      rw [← e k' a] at b
      by_cases z : k = k'
      · omega
      · exfalso
        by_cases l : k < k'
        · exact I k k' l (by omega) b.symm
        · exact I k' k (by omega) kw b
    · intro a; exact ⟨k, a, (e k a).symm⟩
  refine ⟨fun k a q => ?_, fun z z8 q t => ?_, ?_, ?_, ?_⟩
  · rw [← e k a]; exact al1 k (by omega) q
  · obtain ⟨k, a, b, c⟩ := al2 z z8 q
    have := (tk k a).mp (by rw [b]; exact t)
    exact ⟨k, this, by rw [← e k this]; exact b, c⟩
  · refine cnS_sub w _ _ D (fun k kw hf => ⟨D8 k kw, ?_⟩) (fun k k' a b _ _ z => ?_)
    · simp only [Bool.and_eq_true, decide_eq_true_eq] at hf
      have t := tk k kw
      have : tkn d k0 (D k) = false := by
        cases x : tkn d k0 (D k) with
        | false => rfl
        | true => have := t.mp x; omega
      simp [al1 k kw hf.2, this]
    · by_cases e1 : k = k'
      · exact e1
      · exfalso
        by_cases l : k < k'
        · exact I k k' l (by omega) z
        · exact I k' k (by omega) (by omega) z.symm
  · have ch : ∀ z, ∃ k, (z < 8 ∧ ¬ sB j z = -1) → k < w ∧ D k = z ∧ ¬ hA i (ms k) = -1 := fun z => by
      by_cases q : z < 8 ∧ ¬ sB j z = -1
      · obtain ⟨k, a⟩ := al2 z q.1 q.2
        exact ⟨k, fun _ => a⟩
      · exact ⟨0, fun y => absurd y q⟩
    refine cnS_sub 8 _ _ (fun z => Classical.choose (ch z)) (fun z z8 hf => ?_) (fun z z' a b c c' y => ?_)
    · simp only [Bool.and_eq_true, decide_eq_true_eq, Bool.not_eq_true'] at hf
      obtain ⟨a, b, c⟩ := Classical.choose_spec (ch z) ⟨z8, hf.1⟩
      refine ⟨a, ?_⟩
      have t := tk _ a
      rw [b, hf.2] at t
      have : ¬ Classical.choose (ch z) < k0 := fun x => by have := t.mpr x; cases this
      simp only [Bool.and_eq_true, decide_eq_true_eq]
      exact ⟨by omega, c⟩
    · simp only [Bool.and_eq_true, decide_eq_true_eq] at c c'
      have s1 := (Classical.choose_spec (ch z) ⟨a, c.1⟩).2.1
      have s2 := (Classical.choose_spec (ch z') ⟨b, c'.1⟩).2.1
      have y' : Classical.choose (ch z) = Classical.choose (ch z') := y
      rw [← s1, ← s2, y']
  · rcases an with ⟨z, z8, q⟩ | q | q
    · obtain ⟨k, a, b, c⟩ := sOd_from (s := sA) m8 q
      exact Or.inl ⟨ms k, m8 k a, by rw [← c]; exact q⟩
    · exact Or.inr (Or.inl q)
    · exact Or.inr (Or.inr q)
theorem goodA (M : MCh n m sA hA sB hB) (hU : ∀ i, i ≤ n → ∀ k, k < 8 → (¬ sA i k = -1 ∨ ¬ hA i k = -1) → ∃ q, q < w ∧ ms q = k) (m8 : ∀ k, k < w → ms k < 8) (d8 : ∀ k, k < w → d k < 8) (hn : n ≤ 24) (hm : m ≤ 24) (I : Inj d w) (A : AllAg sA hA sB hB eA eB w ms d w) : Gd (sOd sA ms d w) (sOd hA ms d w) sB hB eA eB := by
  refine ⟨fun i j => Rp sA hA sB hB ms d w i j, Rp.z, fun i j r => ?_⟩
  have hIn : i ≤ n ∧ j ≤ m := r (fun i j => i ≤ n ∧ j ≤ m) ⟨Nat.zero_le _, Nat.zero_le _⟩ (fun i j i' j' q s => stp_in M m8 d8 (Nat.le_refl w) hn hm q.1 q.2 s)
  obtain ⟨a1, a2, a3, a4, a5⟩ := A i j r
  have z0 : cnS (fun k => decide (w ≤ k) && decide (¬ hA i (ms k) = -1)) w = 0 := cnS_0 w (fun k hk => by simp [show ¬ w ≤ k by omega])
  rw [z0] at a4
  have a4' := cnS_0i 8 (by omega : cnS (fun z => decide (¬ sB j z = -1) && !tkn d w z) 8 = 0)
  have b2 : ∀ z, z < 8 → ¬ sB j z = -1 → ∃ k, k < w ∧ d k = z ∧ ¬ hA i (ms k) = -1 := fun z z8 q => by
    have := a4' z z8
    have t : tkn d w z = true := by
      cases x : tkn d w z with
      | true => rfl
      | false => rw [x] at this; simp [q] at this
    exact a2 z z8 q t
  refine ⟨(fnd0_iff _).mpr ⟨fun z z8 => ⟨fun q => ?_, fun q => ?_⟩, ?_⟩, fun z z8 q1 q2 => ?_, fun z z8 q1 q2 => ?_⟩
  · obtain ⟨k, c1, c2, c3⟩ := sOd_from (s := sA) m8 q
    rw [show sOd sA ms d w (i, j, 0, 0).1 z = sA i (ms k) from c3] at q
    show ¬ hB j z = -1
    rw [← c2]; exact a1 k c1 q
  · obtain ⟨k, c1, c2, c3⟩ := b2 z z8 q
    show ¬ sOd hA ms d w i z = -1
    rw [← c2, sOd_at I m8 i c1]; exact c3
  · rcases a5 with ⟨k, k8, q⟩ | q | q
    · obtain ⟨p, p1, p2⟩ := hU i hIn.1 k k8 (Or.inl q)
      refine Or.inl ⟨d p, d8 p p1, ?_⟩
      show ¬ sOd sA ms d w i (d p) = -1
      rw [sOd_at I m8 i p1, p2]; exact q
    · exact Or.inr (Or.inl q)
    · exact Or.inr (Or.inr q)
  · obtain ⟨k, c1, c2, c3⟩ := sOd_from (s := sA) m8 q1
    rw [c3] at q1 ⊢
    exact r.s ⟨k, c1, Or.inl ⟨q1, by rw [c2]; exact q2, rfl, by rw [c2]⟩⟩
  · obtain ⟨k, c1, c2, c3⟩ := sOd_from (s := hA) m8 q2
    rw [c3] at q2 ⊢
    exact r.s ⟨k, c1, Or.inr ⟨q2, by rw [c2]; exact q1, rfl, by rw [c2]⟩⟩
end GA
