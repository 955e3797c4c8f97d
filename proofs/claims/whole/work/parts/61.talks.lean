/-! TALKS read by both -/
section TKS
variable {h : AH}
/-- the messages that talk t hears, says at state s -/
def hrs (h : AH) (t s : Nat) : Nat := msk (fun m => decide (¬ nx h t s m = -1)) 8
def sys (h : AH) (t s : Nat) : Nat := msk (fun m => decide (¬ nx h t s (8 + m) = -1)) 8
theorem hrs_lt (h : AH) (t s : Nat) : hrs h t s < 256 := msk_lt _ 8
theorem sys_lt (h : AH) (t s : Nat) : sys h t s < 256 := msk_lt _ 8
theorem hrs_bit (h : AH) (t s : Nat) {m : Nat} (hm : m < 8) : (hrs h t s).testBit m = decide (¬ nx h t s m = -1) := by
  unfold hrs; rw [msk_bit]; simp [hm]
theorem sys_bit (h : AH) (t s : Nat) {m : Nat} (hm : m < 8) : (sys h t s).testBit m = decide (¬ nx h t s (8 + m) = -1) := by
  unfold sys; rw [msk_bit]; simp [hm]
variable {t a n : Nat}
theorem TK.steps (T : TK h t a n) : gI 9 h a 0 = some (nI n) := by rw [gI_n (c := 9) T.2.2.2.1.1, T.2.2.2.2.2.1]
theorem TK.hears (T : TK h t a n) {s : Nat} (hs : s ≤ n) : gR 9 h a 3 = some (some (a + 2)) ∧ rI 1 h (a + 2) (nI s) = some (nI (hrs h t s)) := by
  have := T.1
  exact ⟨by rw [gR_n (c := 9) T.2.2.2.1.1, T.2.2.2.2.1.2.1], by rw [rI_n T.2.2.2.1.2.2.1 (by omega) (by omega), (T.2.2.2.2.2.2.2.2.2.2 s hs).1]; rfl⟩
theorem TK.says (T : TK h t a n) {s : Nat} (hs : s ≤ n) : gR 9 h a 4 = some (some (a + 3)) ∧ rI 1 h (a + 3) (nI s) = some (nI (sys h t s)) := by
  have := T.1
  exact ⟨by rw [gR_n (c := 9) T.2.2.2.1.1, T.2.2.2.2.1.2.2], by rw [rI_n T.2.2.2.1.2.2.2 (by omega) (by omega), (T.2.2.2.2.2.2.2.2.2.2 s hs).2]; rfl⟩
theorem TK.behind (T : TK h t a n) {s g m : Nat} (hs : s ≤ n) (hg : g < 2) (hm : m < 8) : f_Ta_behind h a (nI s) (nI g) (nI m) = some (nx h t s (8 * g + m)) := by
  have := T.1
  simp only [f_Ta_behind, gR_n (c := 9) T.2.2.2.1.1, T.2.2.2.2.1.1, Option.bind_some]
  rw [show (16 : Int32) = nI 16 from rfl, show (8 : Int32) = nI 8 from rfl, pk_mul, pk_mul, nI_add, nI_add, rI_n T.2.2.2.1.2.1 (by omega) (by omega), show s * 16 + g * 8 + m = 16 * s + (8 * g + m) by omega, (T.2.2.2.2.2.2.2.1 s (by omega) (8 * g + m) (by omega)).1]
  rfl
theorem TK.nxt (T : TK h t a n) {s k : Nat} (hs : s ≤ n) (hk : k < 16) : nx h t s k = -1 ∨ ∃ j, 1 ≤ j ∧ j ≤ n ∧ nx h t s k = nI j := (T.2.2.2.2.2.2.2.1 s hs k hk).2
theorem TK.en01 (T : TK h t a n) {s : Nat} (hs : s ≤ n) : en h t s = 0 ∨ en h t s = 1 := T.2.2.2.2.2.2.2.2.1 s hs
theorem place_M (h : AH) (t s g m : Nat) : f_M_place h (nI t) (nI s) (nI g) (nI m) = some (nI (400 * t + 16 * s + (8 * g + m))) := by
  simp only [f_M_place]
  rw [show (16 : Int32) = nI 16 from rfl, show (8 : Int32) = nI 8 from rfl, show (400 : Int32) = nI 400 from rfl, pk_mul, pk_mul, pk_mul, nI_add, nI_add, nI_add, show 400 * t + 16 * s + 8 * g + m = 400 * t + 16 * s + (8 * g + m) by omega]
theorem next_M (hl : Lay h) {t s k : Nat} (ht : t < 6) (hs : s ≤ 24) (hk : k < 16) : rI 1 h 204 (nI (400 * t + 16 * s + k)) = some (nx h t s k) := by
  rw [rI_n (kk204 hl) (by omega) (by decide)]; rfl
theorem now_M (hl : Lay h) {t s g : Nat} (ht : t < 6) (hs : s ≤ 24) (hg : g < 2) : f_M_nowOf h 201 (nI t) (nI s) (nI g) = some (nI (msk (fun m => decide (¬ nx h t s (8 * g + m) = -1)) 8)) := by
  have main : ∀ d i n, i + d = 8 → d < n → f_M_nowOf_L6 h 201 (nI t) (nI s) (nI g) n (nI (msk (fun m => decide (¬ nx h t s (8 * g + m) = -1)) i)) (nI i) = some (nI (msk (fun m => decide (¬ nx h t s (8 * g + m) = -1)) 8)) := by
    intro d
    induction d with
    | zero =>
      intro i n hi hn
      obtain ⟨n, rfl⟩ : ∃ q, n = q + 1 := ⟨n - 1, by omega⟩
      have : i = 8 := by omega
      subst this
      simp [f_M_nowOf_L6, show ¬ nI 8 < 8 by decide]
    | succ d ih =>
      intro i n hi hn
      obtain ⟨n, rfl⟩ : ∃ q, n = q + 1 := ⟨n - 1, by omega⟩
      have l8 : nI i < 8 := nI_lt (b := 8) (by omega) (by decide)
      have := ih (i + 1) n (by omega) (by omega)
      rw [← this]
      simp only [f_M_nowOf_L6, l8, if_true, gR_n (kk201 hl), LR hl, place_M, next_M hl ht hs (show 8 * g + i < 16 by omega), Option.bind_some, shl1 (show i < 31 by omega), nI_1, msk_or]
      by_cases q : nx h t s (8 * g + i) = -1
      · simp [q]
      · simp [q, nI_or]
  exact main 8 0 FU (by omega) (by decide)
theorem now_hears (hl : Lay h) {t s : Nat} (ht : t < 6) (hs : s ≤ 24) : f_M_nowOf h 201 (nI t) (nI s) 0 = some (nI (hrs h t s)) := by
  have := now_M hl (g := 0) ht hs (by decide)
  show f_M_nowOf h 201 (nI t) (nI s) (nI 0) = _
  simpa [hrs] using this
theorem now_says (hl : Lay h) {t s : Nat} (ht : t < 6) (hs : s ≤ 24) : f_M_nowOf h 201 (nI t) (nI s) 1 = some (nI (sys h t s)) := by
  have := now_M hl (g := 1) ht hs (by decide)
  show f_M_nowOf h 201 (nI t) (nI s) (nI 1) = _
  simpa [sys] using this
def orU (f : Nat → Nat) : Nat → Nat
  | 0 => 0
  | n + 1 => orU f n ||| f n
theorem orU_lt {f : Nat → Nat} {k : Nat} (hf : ∀ i, f i < 2 ^ k) : ∀ n, orU f n < 2 ^ k
  | 0 => Nat.two_pow_pos k
  | n + 1 => Nat.or_lt_two_pow (orU_lt hf n) (hf n)
theorem orU_bit (f : Nat → Nat) (i : Nat) : ∀ n, (orU f n).testBit i = (List.range n).any (fun j => (f j).testBit i)
  | 0 => by simp [orU]
  | n + 1 => by rw [orU, Nat.testBit_or, orU_bit f i n, List.range_succ, List.any_append]; simp
/-- the messages of one sign in all states -/
def usg (h : AH) (t n g : Nat) : Nat := orU (fun s => if g = 0 then hrs h t s else sys h t s) (n + 1)
theorem usg_lt (h : AH) (t n g : Nat) : usg h t n g < 256 := orU_lt (k := 8) (fun s => by split; exact hrs_lt h t s; exact sys_lt h t s) _
theorem uses_C (T : TK h t a n) {g : Nat} (hg : g < 2) : f_Ta_messagesOf h a (nI g) = some (nI (usg h t n g)) := by
  have n24 := T.1
  have main : ∀ d i m, i + d = n + 1 → d < m → f_Ta_messagesOf_L4 h a (nI g) m (nI (orU (fun s => if g = 0 then hrs h t s else sys h t s) i)) (nI i) = some (nI (usg h t n g)) := by
    intro d
    induction d with
    | zero =>
      intro i m hi hm
      obtain ⟨m, rfl⟩ : ∃ q, m = q + 1 := ⟨m - 1, by omega⟩
      have : i = n + 1 := by omega
      subst this
      simp [f_Ta_messagesOf_L4, T.steps, nI_lt (show n < n + 1 by omega) (by omega), usg]
    | succ d ih =>
      intro i m hi hm
      obtain ⟨m, rfl⟩ : ∃ q, m = q + 1 := ⟨m - 1, by omega⟩
      have := ih (i + 1) m (by omega) (by omega)
      rw [← this]
      have l1 : ¬ nI n < nI i := nI_nlt (by omega) (by omega)
      rcases (show g = 0 ∨ g = 1 by omega) with rfl | rfl
      · simp only [f_Ta_messagesOf_L4, T.steps, l1, if_false, Option.bind_some, show (nI 0 = (0 : Int32)) by rfl, if_true, (T.hears (show i ≤ n by omega)).1, (T.hears (show i ≤ n by omega)).2, nI_or, nI_1, orU]
      · simp only [f_Ta_messagesOf_L4, T.steps, l1, if_false, Option.bind_some, show ¬ (nI 1 = (0 : Int32)) by decide, (T.says (show i ≤ n by omega)).1, (T.says (show i ≤ n by omega)).2, nI_or, nI_1, orU, show ¬ (1 = 0) by decide]
  exact main (n + 1) 0 FU (by omega) (by unfold FU; omega)
theorem uses_M (hl : Lay h) (T : TK h t a n) (ht : t < 6) {g : Nat} (hg : g < 2) : f_M_usesOf h 201 (nI t) (nI g) = some (nI (usg h t n g)) := by
  have n24 := T.1
  have hst : rI 1 h 203 (nI t) = some (nI n) := by rw [rI_n (kk203 hl) (by omega) (by decide), T.2.2.2.2.2.2.1]
  have main : ∀ d i m, i + d = n + 1 → d < m → f_M_usesOf_L5 h 201 (nI t) (nI g) m (nI (orU (fun s => if g = 0 then hrs h t s else sys h t s) i)) (nI i) = some (nI (usg h t n g)) := by
    intro d
    induction d with
    | zero =>
      intro i m hi hm
      obtain ⟨m, rfl⟩ : ∃ q, m = q + 1 := ⟨m - 1, by omega⟩
      have : i = n + 1 := by omega
      subst this
      simp [f_M_usesOf_L5, gR_n (kk201 hl), LR hl, hst, nI_lt (show n < n + 1 by omega) (by omega), usg]
    | succ d ih =>
      intro i m hi hm
      obtain ⟨m, rfl⟩ : ∃ q, m = q + 1 := ⟨m - 1, by omega⟩
      have := ih (i + 1) m (by omega) (by omega)
      rw [← this]
      have l1 : ¬ nI n < nI i := nI_nlt (by omega) (by omega)
      rcases (show g = 0 ∨ g = 1 by omega) with rfl | rfl
      · simp only [f_M_usesOf_L5, gR_n (kk201 hl), LR hl, hst, l1, if_false, Option.bind_some, cv_n (kk201 hl), show (nI 0 = (0 : Int32)) by rfl, if_true, now_hears hl ht (show i ≤ 24 by omega), nI_or, nI_1, orU]
      · simp only [f_M_usesOf_L5, gR_n (kk201 hl), LR hl, hst, l1, if_false, Option.bind_some, cv_n (kk201 hl), show (nI 1 = (1 : Int32)) by rfl, now_says hl ht (show i ≤ 24 by omega), nI_or, nI_1, orU, show ¬ (1 = 0) by decide]
  exact main (n + 1) 0 FU (by omega) (by unfold FU; omega)
theorem isSign_C (h : AH) (z : Int32) : f_C_isSign h z = some (if z < 0 then 0 else if z < nI 2 then 1 else 0) := by
  have es : f_C_isSign h z = some (if z = 0 ∨ z = 1 then 1 else 0) := by
    simp only [f_C_isSign]
    by_cases q : z = 0
    · simp [q]
    · by_cases q2 : z = 1 <;> simp [q, q2]
  rw [es]
  rcases ix_cases z (show 2 < 2 ^ 31 by decide) with ⟨g, hg, rfl⟩ | h0 | ⟨h0, h1⟩
  · rw [if_neg (nI_n0 g (by omega)), if_pos (nI_lt hg (by decide))]
    rcases (show g = 0 ∨ g = 1 by omega) with rfl | rfl
    · rfl
    · rfl
  · rw [if_pos h0, if_neg]
    rintro (q | q) <;> (rw [q] at h0; exact absurd h0 (by decide))
  · rw [if_neg h0, if_neg h1, if_neg]
    rintro (q | q) <;> (rw [q] at h1; exact absurd h1 (by decide))
theorem isMsg_C (h : AH) (w : Int32) : f_C_isMessage h w = some (if w < 0 then 0 else if w < nI 8 then 1 else 0) := by
  simp only [f_C_isMessage, show (8 : Int32) = nI 8 from rfl]
  by_cases q : w < 0
  · simp [q]
  · by_cases q2 : w < nI 8 <;> simp [q, q2]
theorem o_uses {tn : Nat} {ta ts : Nat → Nat} (hl : Lay h) (rt : RTalks h tn ta ts) (x y : Int32) : ∃ r, f_C_uses h 4 x y = some r ∧ f_M_uses h 201 x y = some r := by
  obtain ⟨t1, t2⟩ := talkC hl rt
  by_cases hx : ∃ t, t < tn ∧ x = nI t
  · obtain ⟨t, ht, rfl⟩ := hx
    obtain ⟨-, T⟩ := rt.2.2.2 t ht
    have h6 := rt.1
    simp only [f_C_uses, f_M_uses, cv_n (kk4 hl), cv_n (kk201 hl), (t1 t ht).1, (t1 t ht).2, Option.bind_some, onl, isSign_C, show (1 : Int32) = nI 1 from rfl, in_Mk h y (show 1 < 2 ^ 30 by decide), show ¬ (nI 1 = 0) by decide, if_false, show 1 + 1 = 2 from rfl]
    rcases ix_cases y (show 2 < 2 ^ 31 by decide) with ⟨g, hg, rfl⟩ | h0 | ⟨h0, h1⟩
    · simp only [nI_n0 g (by omega), nI_lt hg (show 2 < 2 ^ 31 by decide), if_true, if_false, show ¬ (nI 1 = 0) by decide, cv_n (c := 9) T.2.2.2.1.1, uses_C T hg, uses_M hl T (show t < 6 by omega) hg, Option.bind_some]
      exact ⟨_, rfl, rfl⟩
    · simp [h0]
    · simp [h0, h1]
  · simp only [f_C_uses, f_M_uses, cv_n (kk4 hl), cv_n (kk201 hl), (t2 x hx).1, (t2 x hx).2]
    exact ⟨-101, by simp [onl], by simp⟩
end TKS
