/-! the reference goes through all codes -/
theorem ones_step : ∀ U, U < 256 → ¬ U = 0 → (nI U &&& (nI U - 1)) = nI (U &&& (U - 1)) ∧ cnS (fun z => (U &&& (U - 1)).testBit z) 8 + 1 = cnS (fun z => U.testBit z) 8 := by decide +kernel
theorem ones_M (h : AH) {U : Nat} (hU : U < 256) : f_M_ones h (nI U) = some (nI (cnS (fun z => U.testBit z) 8)) := by
  have main : ∀ c U N k, U < 256 → cnS (fun z => U.testBit z) 8 = c → c < N → f_M_ones_L4 h N (nI k) (nI U) = some (nI (k + c)) := by
    intro c
    induction c with
    | zero =>
      intro U N k hU e hN
      obtain ⟨N, rfl⟩ : ∃ q, N = q + 1 := ⟨N - 1, by omega⟩
      have z : U = 0 := (zero8 hU).mpr (fun z z8 q => by have := cnS_0i 8 e z z8; rw [q] at this; cases this)
      subst z
      rw [f_M_ones_L4, if_pos (show nI 0 = 0 from rfl), Nat.add_zero]
    | succ c ih =>
      intro U N k hU e hN
      obtain ⟨N, rfl⟩ : ∃ q, N = q + 1 := ⟨N - 1, by omega⟩
      have z : ¬ U = 0 := fun z => by
        subst z
        rw [cnS_0 8 (fun i _ => Nat.zero_testBit i)] at e; omega
      obtain ⟨s1, s2⟩ := ones_step U hU z
      rw [f_M_ones_L4, if_neg (nI_ne0 (by omega) (by omega)), ob_v, s1, nI_1]
      rw [ih _ N (k + 1) (Nat.lt_of_le_of_lt Nat.and_le_left hU) (by omega) (by omega)]
      congr 2
      omega
  unfold f_M_ones
  have c8 := cnS_le (fun z => U.testBit z) 8
  have := main _ U FU 0 hU rfl (by unfold FU; omega)
  rw [Nat.zero_add] at this
  exact this
theorem inj_s {d : Nat → Nat} {q : Nat} : Inj d (q + 1) ↔ (Inj d q ∧ ∀ k, k < q → ¬ d k = d q) := by
  constructor
  · intro I
    exact ⟨fun i j a b => I i j a (by omega), fun k hk => I k q hk (by omega)⟩
  · rintro ⟨I, J⟩ i j a b
    by_cases e : j = q
    · subst e; exact J i a
    · exact I i j a (by omega)
section LM
variable {h g : AH} {x y a b n m w U : Nat} {ms : Nat → Nat} {G : Nat → Bool}
theorem lay_M (hl : Lay h) (M : MsOK U w ms) (hU : U < 256) (w5 : w ≤ 5) {c : Nat} (hc : c < 8 ^ w) : OK (f_M_lay h 201 (nI U) (nI c) (nI (8 ^ w))) (fun q => Dfr (fun a _ => a = 229 ∨ a = 230) h q.2 ∧ (∃ u : Bool, q.1 = bI u ∧ (u = true ↔ Inj (dg w c) w)) ∧ ∀ z, z < 8 → hI q.2 230 z = oO ms (dg w c) w z ∧ hI q.2 229 z = bB ms (dg w c) w z) := by
  have p5 : 8 ^ w ≤ 8 ^ 5 := Nat.pow_le_pow_right (by decide) w5
  have second : ∀ e z N (g : AH) (u : Bool), z + e = 8 → e < N → Dfr (fun a _ => a = 229 ∨ a = 230) h g → (u = true ↔ Inj (dg w c) (cnS (fun m => U.testBit m) z)) → (∀ z', z' < 8 → hI g 230 z' = oO ms (dg w c) (cnS (fun m => U.testBit m) z) z' ∧ hI g 229 z' = bB ms (dg w c) (cnS (fun m => U.testBit m) z) z') → OK (f_M_lay_L41 201 (nI U) (nI c) N (nI (8 ^ (w - cnS (fun m => U.testBit m) z))) (bI u) (nI z) g) (fun q => Dfr (fun a _ => a = 229 ∨ a = 230) h q.2 ∧ (∃ u : Bool, q.1 = bI u ∧ (u = true ↔ Inj (dg w c) w)) ∧ ∀ z, z < 8 → hI q.2 230 z = oO ms (dg w c) w z ∧ hI q.2 229 z = bB ms (dg w c) w z) := by
    intro e
    induction e with
    | zero =>
      intro z N g u h1 h2 f iu rows
      obtain ⟨N, rfl⟩ : ∃ q, N = q + 1 := ⟨N - 1, by omega⟩
      have : z = 8 := by omega
      subst this
      rw [← M.1] at iu rows
      rw [f_M_lay_L41, if_neg (show ¬ nI 8 < 8 by decide), if_pos (bI01 u)]
      exact OK.mk ⟨f, ⟨u, rfl, iu⟩, rows⟩
    | succ e ih =>
      intro z N g u h1 h2 f iu rows
      obtain ⟨N, rfl⟩ : ∃ q, N = q + 1 := ⟨N - 1, by omega⟩
      have lg := f.lay hl
      have zl : z < 8 := by omega
      obtain ⟨q, eq⟩ : ∃ q, q = cnS (fun m => U.testBit m) z := ⟨_, rfl⟩
      have b1 : ((nI U >>> (nI z &&& 31)) &&& 1) = bI (U.testBit z) := bit01 (by omega) (by omega)
      rw [f_M_lay_L41, if_pos (show nI z < 8 from nI_lt (b := 8) zl (by decide)), b1]
      cases b : U.testBit z with
      | false =>
        have e1 : cnS (fun m => U.testBit m) (z + 1) = cnS (fun m => U.testBit m) z := by simp only [cnS]; rw [if_neg (by simp [b])]; rfl
        rw [if_neg (show ¬ bI false = 1 by decide), nI_1]
        have := ih (z + 1) N g u (by omega) (by omega) f
        rw [e1] at this
        exact this iu rows
      | true =>
        have e1 : cnS (fun m => U.testBit m) (z + 1) = cnS (fun m => U.testBit m) z + 1 := by simp only [cnS]; rw [if_pos b]
        obtain ⟨r1, r2⟩ := M.rk zl b
        rw [← eq] at iu rows e1 r1 r2 ⊢
        have pq : 8 ^ (w - q) = 8 ^ (w - 1 - q) * 8 := by rw [show w - q = (w - 1 - q) + 1 by omega, Nat.pow_succ]
        have pl : 8 ^ (w - q) ≤ 8 ^ 5 := Nat.pow_le_pow_right (by decide) (by omega)
        have pp : 0 < 8 ^ (w - 1 - q) := Nat.pow_pos (by decide)
        have d1 : nI (8 ^ (w - q)) / (8 : Int32) = nI (8 ^ (w - 1 - q)) := by
          have := pk_div (a := 8 ^ (w - q)) (d := 8) (by omega) (by decide) (by decide)
          rw [show 8 ^ (w - q) / 8 = 8 ^ (w - 1 - q) by omega] at this; exact this
        have d2 : nI c / nI (8 ^ (w - 1 - q)) = nI (c / 8 ^ (w - 1 - q)) := pk_div (by omega) pp (by omega)
        have cl : c / 8 ^ (w - 1 - q) ≤ c := Nat.div_le_self _ _
        have d3 : nI (c / 8 ^ (w - 1 - q)) - nI (c / 8 ^ (w - 1 - q)) / (8 : Int32) * (8 : Int32) = nI (dg w c q) := pk_rem (d := 8) (by omega) (by decide) (by decide)
        have d8 := dg_lt w c q
        rw [if_pos (show bI true = 1 by decide), ob_v, d1, if_pos (nI_ne0 pp (by omega)), ob_v, d2, d3]
        have o1 := (rows _ d8).1
        obtain ⟨u', eu'⟩ : ∃ u' : Bool, u' = (u && decide (oO ms (dg w c) q (dg w c q) = -1)) := ⟨_, rfl⟩
        have x13 : ((if bI u = (0 : Int32) then some (0 : Int32) else (gR 12 g 201 44).bind fun r10 => (r10).bind fun a11 => (rI 1 g a11 (nI (dg w c q))).bind fun x12 => if x12 = (-1 : Int32) then some (1 : Int32) else some (0 : Int32)) : Option Int32) = some (bI u') := by
          rw [eu']
          cases u with
          | false => rfl
          | true =>
            rw [if_neg (show ¬ bI true = 0 by decide), gR_n (kk201 lg), ob_v]
            simp only [LR lg, ob_v]
            rw [rI_n (kk230 lg) d8 (by decide), ob_v, o1]
            by_cases t : oO ms (dg w c) q (dg w c q) = -1
            · rw [if_pos t, decide_eq_true t]; rfl
            · rw [if_neg t, decide_eq_false t]; rfl
        rw [x13, ob_v]
        obtain ⟨g1, e2⟩ : ∃ g1, g1 = uI g 230 (dg w c q) (nI z) := ⟨_, rfl⟩
        have f1 : Dfr (fun a _ => a = 229 ∨ a = 230) g g1 := by rw [e2]; exact Dfr.uI (by decide) (Or.inr rfl)
        have l1 := f1.lay lg
        have w1 : wI g 230 (nI (dg w c q)) (nI z) = some g1 := by rw [e2]; exact wI_n (by decide) (kk230 lg) d8 (by decide)
        obtain ⟨g2, e3⟩ : ∃ g2, g2 = uI g1 229 z (nI (dg w c q)) := ⟨_, rfl⟩
        have f2 : Dfr (fun a _ => a = 229 ∨ a = 230) g1 g2 := by rw [e3]; exact Dfr.uI (by decide) (Or.inl rfl)
        have w2 : wI g1 229 (nI z) (nI (dg w c q)) = some g2 := by rw [e3]; exact wI_n (by decide) (kk229 l1) zl (by decide)
        simp only [gR_n (kk201 lg), LR lg, ob_v, w1, gR_n (kk201 l1), LR l1, w2, nI_1]
        have := ih (z + 1) N g2 u' (by omega) (by omega) ((f.trans f1).trans f2)
        rw [e1, show w - (q + 1) = w - 1 - q by omega] at this
        refine this ?_ (fun z' hz' => ⟨?_, ?_⟩)
        · rw [eu', Bool.and_eq_true, iu, decide_eq_true_eq, inj_s]
          refine and_congr_right (fun _ => ?_)
          rcases oO_r ms (dg w c) (dg w c q) q with ⟨z1, z2⟩ | ⟨k, z1, z2, z3⟩
          · exact ⟨fun _ => z2, fun _ => z1⟩
          · have mk := (M.2 k (by omega)).1
            refine ⟨fun y => ?_, fun y => absurd z2 (y k z1)⟩
            rw [z3] at y
            exact absurd y (nI_nm1 (by omega))
        · show hI g2 230 z' = if dg w c q = z' then nI (ms q) else oO ms (dg w c) q z'
          rw [e3, hI_ne (by omega), e2]
          by_cases t : dg w c q = z'
          · rw [if_pos t, ← t, hI_eq, r2]
          · rw [if_neg t, hI_ne (by omega)]; exact (rows z' hz').1
        · show hI g2 229 z' = if ms q = z' then nI (dg w c q) else bB ms (dg w c) q z'
          rw [r2, e3]
          by_cases t : z = z'
          · subst t; rw [if_pos rfl, hI_eq]
          · rw [if_neg t, hI_ne (by omega), e2, hI_ne (by omega)]; exact (rows z' hz').2
  have first : ∀ e z N (g : AH), z + e = 8 → e < N → Dfr (fun a _ => a = 229 ∨ a = 230) h g → (∀ z', z' < z → hI g 230 z' = -1 ∧ hI g 229 z' = -1) → OK (f_M_lay_L9 201 (nI U) (nI c) (nI (8 ^ w)) (1 : Int32) (fun h7 => f_M_lay_L41 201 (nI U) (nI c) FU (nI (8 ^ w)) (1 : Int32) (0 : Int32) h7) N (nI z) g) (fun q => Dfr (fun a _ => a = 229 ∨ a = 230) h q.2 ∧ (∃ u : Bool, q.1 = bI u ∧ (u = true ↔ Inj (dg w c) w)) ∧ ∀ z, z < 8 → hI q.2 230 z = oO ms (dg w c) w z ∧ hI q.2 229 z = bB ms (dg w c) w z) := by
    intro e
    induction e with
    | zero =>
      intro z N g h1 h2 f rows
      obtain ⟨N, rfl⟩ : ∃ q, N = q + 1 := ⟨N - 1, by omega⟩
      have : z = 8 := by omega
      subst this
      rw [f_M_lay_L9, if_neg (show ¬ nI 8 < 8 by decide)]
      exact second 8 0 FU g true (by omega) (by unfold FU; omega) f ⟨fun _ i j a b => by simp only [cnS] at b; omega, fun _ => rfl⟩ rows
    | succ e ih =>
      intro z N g h1 h2 f rows
      obtain ⟨N, rfl⟩ : ∃ q, N = q + 1 := ⟨N - 1, by omega⟩
      have lg := f.lay hl
      have zl : z < 8 := by omega
      obtain ⟨g1, e2⟩ : ∃ g1, g1 = uI g 230 z (-1) := ⟨_, rfl⟩
      have f1 : Dfr (fun a _ => a = 229 ∨ a = 230) g g1 := by rw [e2]; exact Dfr.uI (by decide) (Or.inr rfl)
      have l1 := f1.lay lg
      have w1 : wI g 230 (nI z) (-1) = some g1 := by rw [e2]; exact wI_n (by decide) (kk230 lg) zl (by decide)
      obtain ⟨g2, e3⟩ : ∃ g2, g2 = uI g1 229 z (-1) := ⟨_, rfl⟩
      have f2 : Dfr (fun a _ => a = 229 ∨ a = 230) g1 g2 := by rw [e3]; exact Dfr.uI (by decide) (Or.inl rfl)
      have w2 : wI g1 229 (nI z) (-1) = some g2 := by rw [e3]; exact wI_n (by decide) (kk229 l1) zl (by decide)
      rw [f_M_lay_L9, if_pos (show nI z < 8 from nI_lt (b := 8) zl (by decide))]
      simp only [gR_n (kk201 lg), LR lg, ob_v, w1, gR_n (kk201 l1), LR l1, w2, nI_1]
      refine ih (z + 1) N g2 (by omega) (by omega) ((f.trans f1).trans f2) (fun z' hz' => ?_)
      by_cases t : z' = z
      · subst t
        exact ⟨by rw [e3, hI_ne (by omega), e2, hI_eq], by rw [e3, hI_eq]⟩
      · exact ⟨by rw [e3, hI_ne (by omega), e2, hI_ne (by omega)]; exact (rows z' (by omega)).1, by rw [e3, hI_ne (by omega), e2, hI_ne (by omega)]; exact (rows z' (by omega)).2⟩
  unfold f_M_lay
  exact first 8 0 FU h (by omega) (by unfold FU; omega) Dfr.refl (fun z' hz' => by omega)
def SSk (a k : Nat) : Prop := SMw a k ∨ (a = 201 ∧ k = 50) ∨ a = 229 ∨ a = 230
/-- what the reference has got for the adapter that is wanted -/
def GotR (W v : Int32) (w : Nat) (ms : Nat → Nat) (q : Nat) (L : List Nat) : Prop := (∀ j, j < L.length → W = nI j → v = bB ms (dg w (L.getD j 0)) w q) ∧ ((¬ ∃ j, j < L.length ∧ W = nI j) → v = -1)
theorem messages_M (hl : Lay h) (T : TK h x a n) (hx : x < 6) : f_M_messagesOf h 201 (nI x) = some (nI (usg h x n 0 ||| usg h x n 1)) := by
  have u0 : f_M_usesOf h 201 (nI x) (0 : Int32) = some (nI (usg h x n 0)) := uses_M hl T hx (g := 0) (by decide)
  have u1 : f_M_usesOf h 201 (nI x) (1 : Int32) = some (nI (usg h x n 1)) := uses_M hl T hx (g := 1) (by decide)
  simp only [f_M_messagesOf, cv_n (kk201 hl), u0, u1, ob_v, nI_or]
theorem seek_M (hl : Lay h) (T1 : TK h x a n) (T2 : TK h y b m) (hx : x < 6) (hy : y < 6) (M : MsOK (usg h x n 0 ||| usg h x n 1) w ms) (w5 : w ≤ 5) (HG : GdC h x y w ms G) (W : Int32) {q : Nat} (hq : q < 8) : OK (f_M_seekAdapters h 201 (nI x) (nI y) W (nI q)) (fun r => Dfr SSk h r.2 ∧ r.1 = nI (gds G (8 ^ w)).length ∧ GotR W (hI r.2 201 50) w ms q (gds G (8 ^ w))) := by
  have hm := hl.2.2.2.2.2.2
  have p5 : 8 ^ w ≤ 8 ^ 5 := Nat.pow_le_pow_right (by decide) w5
  obtain ⟨U, eU⟩ : ∃ U, U = usg h x n 0 ||| usg h x n 1 := ⟨_, rfl⟩
  have Ul : U < 256 := by rw [eU]; exact or_lt (n := 8) (usg_lt h x n 0) (usg_lt h x n 1)
  have mes := messages_M hl T1 hx
  rw [← eU] at mes M
  have lenB : ∀ c, c ≤ 8 ^ w → (gds G c).length ≤ 8 ^ 5 := fun c hc => by rw [gds_len]; have := cnS_le G c; omega
  obtain ⟨h2, e2⟩ : ∃ h2, h2 = uI h 201 50 (-1) := ⟨_, rfl⟩
  have f2 : Dfr SSk h h2 := by rw [e2]; exact Dfr.uI (by decide) (by unfold SSk; omega)
  have l2 := f2.lay hl
  have w2 : pI 12 h 201 50 (-1) = some h2 := by rw [e2]; exact pI_n (kk201 hl)
  have loop : ∀ e c N (g : AH), c + e = 8 ^ w → e < N → Dfr SSk h g → GotR W (hI g 201 50) w ms q (gds G c) → OK (f_M_seekAdapters_L47 201 (nI x) (nI y) W (nI q) (nI U) (nI (8 ^ w)) (fun x16 h17 => (cv 12 h17 201 (f_M_same h17 201)).bind fun h18 => some (x16, h18)) N (nI (gds G c).length) (nI c) g) (fun r => Dfr SSk h r.2 ∧ r.1 = nI (gds G (8 ^ w)).length ∧ GotR W (hI r.2 201 50) w ms q (gds G (8 ^ w))) := by
    intro e
    induction e with
    | zero =>
      intro c N g h1 h2' f R
      obtain ⟨N, rfl⟩ : ∃ q, N = q + 1 := ⟨N - 1, by omega⟩
      have lg := f.lay hl
      have : c = 8 ^ w := by omega
      subst this
      rw [f_M_seekAdapters_L47, if_neg (nI_nlt (Nat.le_refl _) (by omega)), cv_n (kk201 lg)]
      refine OK.bind (OK.mono (same_M lg) (fun g' ⟨f', _⟩ => OK.mk ⟨f.trans (f'.mono (fun a k z => by unfold SSk; omega)), rfl, ?_⟩))
      show GotR W (hI g' 201 50) w ms q _
      rw [f'.I (by omega)]; exact R
    | succ e ih =>
      intro c N g h1 h2' f R
      obtain ⟨N, rfl⟩ : ∃ q, N = q + 1 := ⟨N - 1, by omega⟩
      have lg := f.lay hl
      have cw : c < 8 ^ w := by omega
      have lc := lenB c (by omega)
      obtain ⟨⟨x6, g1⟩, e1, f1, ⟨u, eu, iu⟩, rows⟩ := lay_M lg M Ul w5 cw
      dsimp only at f1 eu rows
      have l1 := f1.lay lg
      have F1 : Dfr SSk h g1 := f.trans (f1.mono (fun a k z => by unfold SSk; omega))
      have v1 : hI g1 201 50 = hI g 201 50 := f1.I (by omega)
      have no : G c = false → gds G (c + 1) = gds G c := fun z => by rw [gds_s, z, if_neg (by decide), List.append_nil]
      rw [f_M_seekAdapters_L47, if_pos (nI_lt cw (by omega)), cv_n (kk201 lg), e1, bd2_v, eu]
      cases u with
      | false =>
        have bad : G c = false := by
          cases z : G c with
          | false => rfl
          | true => have := iu.mpr ((HG c cw).mp z).1; cases this
        rw [if_pos (show bI false = 0 by decide), nI_1]
        have := ih (c + 1) N g1 (by omega) (by omega) F1
        rw [no bad] at this
        exact this (by rw [v1]; exact R)
      | true =>
        have I := iu.mp rfl
        rw [if_neg (show ¬ bI true = 0 by decide), cv_n (kk201 l1)]
        have ag1 : Ag FTalk h g1 := F1.fr.ag (by unfold FTalk SSk SMw SMk; omega)
        have nx1 : nx g1 = nx h := by funext t s k; exact F1.I (by unfold SSk SMw SMk; omega)
        have en1 : en g1 = en h := by funext t s; exact F1.I (by unfold SSk SMw SMk; omega)
        have sx1 : sX g1 = sX h := by unfold sX; rw [nx1]
        have hx1 : hX g1 = hX h := by unfold hX; rw [nx1]
        have og : OG g1 := fun z hz => by
          rw [(rows z hz).1]
          rcases oO_r ms (dg w c) z w with ⟨z1, _⟩ | ⟨k, z1, _, z3⟩
          · exact Or.inl z1
          · exact Or.inr ⟨ms k, (M.2 k z1).1, z3⟩
        have es : ∀ i z, z < 8 → sO g1 x i z = sOd (sX h x) ms (dg w c) w i z := fun i z hz => by
          unfold sO sOd; rw [(rows z hz).1, nx1]; rfl
        have eh : ∀ i z, z < 8 → hO g1 x i z = sOd (hX h x) ms (dg w c) w i z := fun i z hz => by
          unfold hO sOd; rw [(rows z hz).1, nx1]; rfl
        obtain ⟨⟨x8, g2⟩, e3, f3, al⟩ := walk0_M l1 og (T1.ag hm ag1) (T2.ag hm ag1) hx hy
        dsimp only at f3 al
        rw [sx1, hx1, en1] at al
        have F3 : Dfr SSk h g2 := F1.trans (f3.mono (fun a k z => Or.inl z))
        have l3 := f3.lay l1
        have v3 : hI g2 201 50 = hI g 201 50 := by rw [f3.I (by unfold SMw SMk; omega)]; exact v1
        rw [e3, bd2_v]
        rcases al with ⟨q1, q2⟩ | ⟨q1, q2⟩
        · have good : G c = true := (HG c cw).mpr ⟨I, q2.cong (fun i z hz => (es i z hz).symm) (fun i z hz => (eh i z hz).symm)⟩
          have gs : gds G (c + 1) = gds G c ++ [c] := by rw [gds_s, if_pos good]
          have b229 : hI g2 229 q = bB ms (dg w c) w q := by rw [f3.I (by unfold SMw SMk; omega)]; exact (rows q hq).2
          rw [q1, if_pos rfl]
          obtain ⟨nv, env⟩ : ∃ nv : Int32, nv = if nI (gds G c).length = W then bB ms (dg w c) w q else hI g 201 50 := ⟨_, rfl⟩
          have x14 : ((if nI (gds G c).length = W then (gR 12 g2 201 43).bind fun r11 => (r11).bind fun a12 => (rI 1 g2 a12 (nI q)).bind fun x13 => some x13 else (gI 12 g2 201 50).bind fun x10 => some x10) : Option Int32) = some nv := by
            rw [env]
            by_cases t : nI (gds G c).length = W
            · rw [if_pos t, if_pos t, gR_n (kk201 l3), ob_v]
              simp only [LR l3, ob_v]
              rw [rI_n (kk229 l3) hq (by decide), ob_v, b229]
            · rw [if_neg t, if_neg t, gI_n (kk201 l3), ob_v, v3]
          rw [x14, ob_v, pI_n (kk201 l3), ob_v, nI_1, nI_1]
          have := ih (c + 1) N (uI g2 201 50 nv) (by omega) (by omega) (F3.trans (Dfr.uI (by decide) (by unfold SSk; omega)))
          rw [gs, List.length_append] at this
          refine this ?_
          rw [hI_eq, env]
          obtain ⟨R1, R2⟩ := R
          have getl : ∀ j, j < (gds G c).length → (gds G c ++ [c]).getD j 0 = (gds G c).getD j 0 := fun j hj => by
            rw [List.getD_eq_getElem?_getD, List.getD_eq_getElem?_getD, List.getElem?_append_left hj]
          have getr : (gds G c ++ [c]).getD (gds G c).length 0 = c := by
            rw [List.getD_eq_getElem?_getD, List.getElem?_append_right (Nat.le_refl _)]; simp
          refine ⟨fun j hj eW => ?_, fun nW => ?_⟩
          · rw [List.length_append] at hj
            have hj' : j < (gds G c).length + 1 := hj
            by_cases t : j = (gds G c).length
            · subst t
              rw [if_pos eW.symm, getr]
            · rw [if_neg (fun z => t (nI_inj (by omega) (by omega) (by rw [← eW, ← z]))), getl j (by omega)]
              exact R1 j (by omega) eW
          · have n1 : ¬ nI (gds G c).length = W := fun z => nW ⟨(gds G c).length, by rw [List.length_append]; show _ < _ + 1; omega, z.symm⟩
            rw [if_neg n1]
            exact R2 (fun ⟨j, j1, j2⟩ => nW ⟨j, by rw [List.length_append]; show _ < _ + 1; omega, j2⟩)
        · have bad : G c = false := by
            cases z : G c with
            | false => rfl
            | true =>
              exact absurd (((HG c cw).mp z).2.cong es eh) q2
          rw [if_neg q1, nI_1]
          have := ih (c + 1) N g2 (by omega) (by omega) F3
          rw [no bad] at this
          exact this (by rw [v3]; exact R)
  have ways : ∀ {ρ : Type} (kk : Int32 → Option ρ), ∀ e k N, k + e = w → e < N → f_M_seekAdapters_L21 h2 201 (nI x) (nI y) W (nI q) (nI U) (0 : Int32) kk N (nI (8 ^ k)) (nI k) = kk (nI (8 ^ w)) := by
    intro ρ kk e
    have on := ones_M h2 Ul
    rw [← M.1] at on
    induction e with
    | zero =>
      intro k N h1 h2'
      obtain ⟨N, rfl⟩ : ∃ q, N = q + 1 := ⟨N - 1, by omega⟩
      rw [f_M_seekAdapters_L21, on, ob_v, if_neg (nI_nlt (show w ≤ k by omega) (by omega)), show k = w by omega]
    | succ e ih =>
      intro k N h1 h2'
      obtain ⟨N, rfl⟩ : ∃ q, N = q + 1 := ⟨N - 1, by omega⟩
      rw [f_M_seekAdapters_L21, on, ob_v, if_pos (nI_lt (show k < w by omega) (by omega)), ob_v, show (8 : Int32) = nI 8 from rfl, pk_mul, ← Nat.pow_succ, nI_1]
      exact ih (k + 1) N (by omega) (by omega)
  have wy := fun {ρ : Type} (kk : Int32 → Option ρ) => ways kk w 0 FU (by omega) (by unfold FU; omega)
  unfold f_M_seekAdapters
  rw [cv_n (kk201 hl), mes, ob_v, w2, ob_v]
  have wy' : ∀ {ρ : Type} (kk : Int32 → Option ρ), f_M_seekAdapters_L21 h2 201 (nI x) (nI y) W (nI q) (nI U) (0 : Int32) kk FU (1 : Int32) (0 : Int32) = kk (nI (8 ^ w)) := wy
  rw [wy']
  exact loop (8 ^ w) 0 FU h2 (by omega) (by unfold FU; omega) f2 ⟨fun j hj => absurd hj (by show ¬ j < 0; omega), fun _ => by rw [e2, hI_eq]⟩
end LM
