/-! the reference's passes -/
def GM (g : AH) (p q : Nat) : Bool := decide (hI g 231 (25 * p + q) = 1)
def ZO (n m : Nat) (g : AH) : Prop := (∀ z, z < 625 → hI g 231 z = 0 ∨ hI g 231 z = 1) ∧ ∀ p q, p ≤ 24 → q ≤ 24 → ¬ (p ≤ n ∧ q ≤ m) → hI g 231 (25 * p + q) = 0
section FM
variable {h g g0 : AH} {x y a b n m p q : Nat}
theorem ZO.v (z : ZO n m g) {p q : Nat} (hp : p ≤ 24) (hq : q ≤ 24) : hI g 231 (25 * p + q) = bI (GM g p q) := by
  unfold GM
  rcases z.1 (25 * p + q) (by omega) with e | e <;> rw [e] <;> rfl
theorem may_M (hl : Lay g) (T1 : TK g x a n) (T2 : TK g y b m) (hx : x < 6) (hy : y < 6) (z : ZO n m g) (hp : p ≤ n) (hq : q ≤ m) : f_M_mayFit g 201 (nI x) (nI y) (nI p) (nI q) = some (bI (okB g x y (GM g) p q)) := by
  have t1 := T1.1
  have t2 := T2.1
  have ix1 : ((25 : Int32) * nI x) + nI p = nI (25 * x + p) := by rw [show (25 : Int32) = nI 25 from rfl, pk_mul, nI_add]
  have ix2 : ((25 : Int32) * nI y) + nI q = nI (25 * y + q) := by rw [show (25 : Int32) = nI 25 from rfl, pk_mul, nI_add]
  have ix : ∀ j j', ((25 : Int32) * nI j) + nI j' = nI (25 * j + j') := fun j j' => by rw [show (25 : Int32) = nI 25 from rfl, pk_mul, nI_add]
  have hl1 := hrs_lt g y q
  have hl2 := sys_lt g x p
  have E1 : hI g 205 (25 * x + p) = en g x p := rfl
  have E2 : hI g 205 (25 * y + q) = en g y q := rfl
  have loop : ∀ (N : nowB g x y p q = true) d i k (c : Bool), i + d = 8 → d < k → f_M_mayFit_L112 g 201 (nI x) (nI y) (nI p) (nI q) (nI (sys g x p)) (nI (hrs g y q)) k (bI c) (nI i) = some (bI (c && latB g x y (GM g) p q d)) := by
    intro N d
    induction d with
    | zero =>
      intro i k c h1 h2
      obtain ⟨k, rfl⟩ : ∃ q, k = q + 1 := ⟨k - 1, by omega⟩
      have : i = 8 := by omega
      subst this
      have bb : bI c = 0 ∨ bI c = 1 := by cases c <;> decide
      simp only [f_M_mayFit_L112, show ¬ nI 8 < 8 by decide, if_false]
      rw [if_pos bb]
      cases c <;> rfl
    | succ d ih =>
      intro i k c h1 h2
      obtain ⟨k, rfl⟩ : ∃ q, k = q + 1 := ⟨k - 1, by omega⟩
      have hi : i < 8 := by omega
      have qi : nI i < 8 := nI_lt (b := 8) hi (by decide)
      have i7 : 7 - d = i := by omega
      have IH : ∀ c, f_M_mayFit_L112 g 201 (nI x) (nI y) (nI p) (nI q) (nI (sys g x p)) (nI (hrs g y q)) k (bI c) (nI (i + 1)) = some (bI (c && latB g x y (GM g) p q d)) := fun c => ih (i + 1) k c (by omega) (by omega)
      cases c with
      | false =>
        simp only [f_M_mayFit_L112, qi, if_true, bI, Bool.false_eq_true, if_false]
        rfl
      | true =>
        have b1 := hb_1 (nI (hrs g y q)) i
        have b2 := hb_1 (nI (sys g x p)) i
        rw [hb_nI (by omega) (by omega)] at b1 b2
        have p0 : f_M_place g (nI x) (nI p) (0 : Int32) (nI i) = some (nI (400 * x + 16 * p + i)) := by
          have := place_M g x p 0 i; rw [show 8 * 0 + i = i by omega] at this; exact this
        have p1 : f_M_place g (nI y) (nI q) (0 : Int32) (nI i) = some (nI (400 * y + 16 * q + i)) := by
          have := place_M g y q 0 i; rw [show 8 * 0 + i = i by omega] at this; exact this
        have p2 : f_M_place g (nI x) (nI p) (1 : Int32) (nI i) = some (nI (400 * x + 16 * p + (8 + i))) := by
          have := place_M g x p 1 i; rw [show 8 * 1 + i = 8 + i by omega] at this; exact this
        have p3 : f_M_place g (nI y) (nI q) (1 : Int32) (nI i) = some (nI (400 * y + 16 * q + (8 + i))) := by
          have := place_M g y q 1 i; rw [show 8 * 1 + i = 8 + i by omega] at this; exact this
        have n0 := next_M hl hx (show p ≤ 24 by omega) (show i < 16 by omega)
        have n1 := next_M hl hy (show q ≤ 24 by omega) (show i < 16 by omega)
        have n2 := next_M hl hx (show p ≤ 24 by omega) (show 8 + i < 16 by omega)
        have n3 := next_M hl hy (show q ≤ 24 by omega) (show 8 + i < 16 by omega)
        have bt : bI true = (1 : Int32) := rfl
        have F1 : ((if ((nI (hrs g y q) >>> (nI i &&& 31)) &&& (1 : Int32)) = (1 : Int32) then
            (gR 12 g 201 49).bind fun r13 =>
            (gR 12 g 201 4).bind fun r14 =>
            (f_M_place g (nI x) (nI p) (0 : Int32) (nI i)).bind fun x15 =>
            (r14).bind fun a16 =>
            (rI 1 g a16 x15).bind fun x17 =>
            (gR 12 g 201 4).bind fun r18 =>
            (f_M_place g (nI y) (nI q) (0 : Int32) (nI i)).bind fun x19 =>
            (r18).bind fun a20 =>
            (rI 1 g a20 x19).bind fun x21 =>
            (r13).bind fun a22 =>
            (rI 2 g a22 (((25 : Int32) * x17) + x21)).bind fun x23 =>
            some (x23)
          else
            some (bI true)) : Option Int32) = some (bI (!(hrs g y q).testBit i || GM g (nx g x p i).toNatClampNeg (nx g y q i).toNatClampNeg)) := by
          cases w : (hrs g y q).testBit i with
          | false => rw [if_neg (fun u => by rw [b1, w] at u; cases u)]; rfl
          | true =>
            obtain ⟨j, j', k1, k2, k3, k4⟩ := now_h T1 T2 hp hq N hi w
            rw [if_pos (b1.mpr w)]
            simp only [gR_n (kk201 hl), LR hl, Option.bind_some, p0, p1, n0, n1, k3, k4, ix, rI_n (kk231 hl) (show 25 * j + j' < 625 by omega) (by decide), z.v (show j ≤ 24 by omega) (show j' ≤ 24 by omega), cl_nI (show j < 2 ^ 31 by omega), cl_nI (show j' < 2 ^ 31 by omega)]
            cases GM g j j' <;> rfl
        simp only [f_M_mayFit_L112, qi, if_true, bt, show ¬ ((1 : Int32) = 0) by decide, if_false]
        rw [bt] at F1
        rw [F1, Option.bind_some, latB, i7]
        unfold okM
        cases w1 : (!(hrs g y q).testBit i || GM g (nx g x p i).toNatClampNeg (nx g y q i).toNatClampNeg) with
        | false =>
          rw [if_pos (show bI false = 0 from rfl)]
          have := IH false
          rw [nI_1]
          exact this
        | true =>
          rw [if_neg (by decide)]
          cases w : (sys g x p).testBit i with
          | false =>
            rw [if_neg (fun u => by rw [b2, w] at u; cases u)]
            have := IH true
            rw [nI_1]
            exact this
          | true =>
            obtain ⟨j, j', k1, k2, k3, k4⟩ := now_s T1 T2 hp hq N hi w
            rw [if_pos (b2.mpr w)]
            simp only [gR_n (kk201 hl), LR hl, Option.bind_some, p2, p3, n2, n3, k3, k4, ix, rI_n (kk231 hl) (show 25 * j + j' < 625 by omega) (by decide), z.v (show j ≤ 24 by omega) (show j' ≤ 24 by omega), cl_nI (show j < 2 ^ 31 by omega), cl_nI (show j' < 2 ^ 31 by omega), nI_1, IH]
            cases GM g j j' <;> rfl
  have L0 : ∀ k, f_M_mayFit_L112 g 201 (nI x) (nI y) (nI p) (nI q) (nI (sys g x p)) (nI (hrs g y q)) (k + 1) 0 0 = some 0 := by
    intro k
    have q0 : (0 : Int32) < 8 := by decide
    simp only [f_M_mayFit_L112, q0, if_true]
    rfl
  simp only [f_M_mayFit, gR_n (kk201 hl), LR hl, Option.bind_some, ix1, ix2, rI_n (kk205 hl) (show 25 * x + p < 150 by omega) (by decide), rI_n (kk205 hl) (show 25 * y + q < 150 by omega) (by decide), E1, E2, cv_n (kk201 hl), now_says hl hx (show p ≤ 24 by omega), now_says hl hy (show q ≤ 24 by omega), now_hears hl hy (show q ≤ 24 by omega), now_hears hl hx (show p ≤ 24 by omega)]
  obtain ⟨K, hK⟩ := FU_succ
  have zero : nowB g x y p q = false → f_M_mayFit_L112 g 201 (nI x) (nI y) (nI p) (nI q) (nI (sys g x p)) (nI (hrs g y q)) FU 0 0 = some (bI (okB g x y (GM g) p q)) := by
    intro N
    unfold okB
    rw [N, hK, L0]
    rfl
  have one : nowB g x y p q = true → f_M_mayFit_L112 g 201 (nI x) (nI y) (nI p) (nI q) (nI (sys g x p)) (nI (hrs g y q)) FU 1 0 = some (bI (okB g x y (GM g) p q)) := by
    intro N
    have := loop N 8 0 FU true rfl (by unfold FU; omega)
    unfold okB
    rw [N]
    rw [nI_0] at this
    exact this
  unfold nowB at zero one
  by_cases c5 : en g x p = en g y q
  · rw [if_pos c5, Option.bind_some, if_neg (by decide)]
    rw [decide_eq_true c5] at zero one
    by_cases c2 : nI (sys g x p) &&& (nI (sys g y q) ^^^ (-1 : Int32)) = 0
    · rw [if_pos c2]
      rw [decide_eq_true c2] at zero one
      by_cases c1 : nI (hrs g y q) &&& (nI (hrs g x p) ^^^ (-1 : Int32)) = 0
      · rw [if_pos c1]
        rw [decide_eq_true c1] at zero one
        by_cases c3 : nI (sys g x p) = 0
        · rw [if_pos c3]
          rw [decide_eq_true c3] at zero one
          by_cases c4 : nI (sys g y q) = 0
          · rw [if_pos c4, Option.bind_some]
            rw [decide_eq_true c4] at one
            exact one rfl
          · rw [if_neg c4, Option.bind_some]
            rw [decide_eq_false c4] at zero
            exact zero rfl
        · rw [if_neg c3, Option.bind_some]
          rw [decide_eq_false c3] at one
          exact one rfl
      · rw [if_neg c1, Option.bind_some]
        rw [decide_eq_false c1] at zero
        exact zero rfl
    · rw [if_neg c2, Option.bind_some]
      rw [decide_eq_false c2] at zero
      exact zero (by simp)
  · rw [if_neg c5, Option.bind_some, if_pos rfl, Option.bind_some]
    rw [decide_eq_false c5] at zero
    exact zero (by simp)
def MW (h : AH) (x y n m : Nat) (g0 : AH) (fl : Bool) (g : AH) (z : Nat) : Prop := Dfr (OnC 231) h g ∧ ZO n m g ∧ (∀ C, Cl h x y n m C → ∀ p q, C p q = true → GR n m (GM g) p q = true) ∧ (fl = false → g = g0 ∧ ∀ p q, 25 * p + q < z → GR n m (GM g) p q = true → okB h x y (GR n m (GM g)) p q = true) ∧ (fl = true → crd (GR n m (GM g)) < crd (GR n m (GM g0)))
theorem f231_nx (f : Dfr (OnC 231) h g) : nx g = nx h := by funext t s k; exact f.I (by unfold OnC; omega)
theorem f231_en (f : Dfr (OnC 231) h g) : en g = en h := by funext t s; exact f.I (by unfold OnC; omega)
theorem MW.drop (T1 : TK h x a n) (T2 : TK h y b m) {fl : Bool} {z z' : Nat} (hp : p ≤ n) (hq : q ≤ m) (s : MW h x y n m g0 fl g z) (g1 : GM g p q = true) (no : okB h x y (GM g) p q = false) : MW h x y n m g0 true (uI g 231 (25 * p + q) 0) z' := by
  have t1 := T1.1
  have t2 := T2.1
  obtain ⟨s1, s0, s2, s3, s4⟩ := s
  obtain ⟨g2, eg⟩ : ∃ g2, g2 = uI g 231 (25 * p + q) 0 := ⟨_, rfl⟩
  rw [← eg]
  have e : ∀ p' q', p' ≤ n → q' ≤ m → GM g2 p' q' = (GM g p' q' && !(decide (p' = p) && decide (q' = q))) := by
    intro p' q' hp' hq'
    unfold GM
    rw [eg]
    by_cases w : p' = p ∧ q' = q
    · rw [w.1, w.2, hI_eq]; simp
    · rw [hI_ne (by omega)]
      by_cases w1 : p' = p
      · simp [w1, show ¬ q' = q from fun u => w ⟨w1, u⟩]
      · simp [w1]
  have e' : ∀ p' q', GR n m (GM g2) p' q' = (GR n m (GM g) p' q' && !(decide (p' = p) && decide (q' = q))) := by
    intro p' q'
    unfold GR
    by_cases w1 : p' ≤ n
    · by_cases w2 : q' ≤ m
      · rw [e p' q' w1 w2, decide_eq_true w1, decide_eq_true w2]; simp
      · simp [w2]
    · simp [w1]
  have gr : GR n m (GM g) p q = true := by unfold GR; simp [hp, hq, g1]
  have lt : crd (GR n m (GM g2)) < crd (GR n m (GM g)) := by
    refine crd_lt (p := p) (q := q) (by omega) (by omega) (fun p' q' w => ?_) gr ?_
    · rw [e', Bool.and_eq_true] at w; exact w.1
    · rw [e']; simp
  refine ⟨?_, ⟨fun w hw => ?_, fun p' q' w1 w2 w3 => ?_⟩, fun C hC p' q' c => ?_, fun w => (nomatch w), fun _ => ?_⟩
  · rw [eg]; exact s1.trans (Dfr.uI (by decide) rfl)
  · rw [eg]
    by_cases u : w = 25 * p + q
    · rw [u, hI_eq]; exact Or.inl rfl
    · rw [hI_ne (by omega)]; exact s0.1 w hw
  · rw [eg]
    by_cases u : 25 * p' + q' = 25 * p + q
    · rw [u, hI_eq]
    · rw [hI_ne (by omega)]; exact s0.2 p' q' w1 w2 w3
  · rw [e', s2 C hC p' q' c, Bool.true_and]
    by_cases w : p' = p ∧ q' = q
    · obtain ⟨w1, w2⟩ := w
      subst w1; subst w2
      have k1 := (hC p' q' c).2.2
      have k2 := okB_mono (G := GR n m (GM g)) (fun p q w => s2 C hC p q w) k1
      rw [ok_GR T1 T2 hp hq, no] at k2
      cases k2
    · by_cases w1 : p' = p
      · have : ¬ q' = q := fun u => w ⟨w1, u⟩
        simp [this]
      · simp [w1]
  · cases fl with
    | false => rw [(s3 rfl).1] at lt; rw [← (s3 rfl).1] at lt ⊢; exact lt
    | true => have := s4 rfl; omega
theorem passF_M (hl : Lay h) (T1 : TK h x a n) (T2 : TK h y b m) (hx : x < 6) (hy : y < 6) {ρ : Type} {Q : ρ → Prop} (k : Int32 → AH → Option ρ) (hk : ∀ fl g, MW h x y n m g0 fl g 625 → OK (k (bI fl) g) Q) : ∀ N (s : Nat × Bool × AH), (s.1 ≤ 625 ∧ MW h x y n m g0 s.2.1 s.2.2 s.1) → 625 - s.1 < N → OK (f_M_fitAll_L63 201 (nI x) (nI y) k N (bI s.2.1) (nI s.1) s.2.2) Q := by
  have t1 := T1.1
  have t2 := T2.1
  refine loopU (fun N (s : Nat × Bool × AH) => f_M_fitAll_L63 201 (nI x) (nI y) k N (bI s.2.1) (nI s.1) s.2.2) _ (fun s => 625 - s.1) _ ?_
  intro N s ⟨h1, h2⟩ ih
  obtain ⟨z, fl, g⟩ := s
  dsimp only at h1 h2 ih ⊢
  have f := h2.1
  have lg := f.lay hl
  have ag : Ag FTalk h g := f.fr.ag (by unfold FTalk OnC; omega)
  have U1 := T1.ag hl.2.2.2.2.2.2 ag
  have U2 := T2.ag hl.2.2.2.2.2.2 ag
  by_cases hz : z < 625
  · have qz : nI z < 625 := nI_lt (b := 625) hz (by decide)
    obtain ⟨p, q, hp, hq, ez⟩ : ∃ p q, p ≤ 24 ∧ q ≤ 24 ∧ z = 25 * p + q := ⟨z / 25, z % 25, by omega, by omega, by omega⟩
    subst ez
    have d1 : nI (25 * p + q) / (25 : Int32) = nI p := by
      have := pk_div (a := 25 * p + q) (d := 25) (by omega) (by decide) (by decide)
      rw [show (25 * p + q) / 25 = p by omega] at this; exact this
    have d2 : nI (25 * p + q) - nI (25 * p + q) / (25 : Int32) * (25 : Int32) = nI q := by
      have := pk_rem (a := 25 * p + q) (d := 25) (by omega) (by decide) (by decide)
      rw [show (25 * p + q) % 25 = q by omega] at this; exact this
    have vz : hI g 231 (25 * p + q) = bI (GM g p q) := h2.2.1.v hp hq
    simp only [f_M_fitAll_L63, qz, if_true, gR_n (kk201 lg), LR lg, Option.bind_some, rI_n (kk231 lg) hz (by decide), vz, bI0]
    have stay : (GR n m (GM g) p q = true → okB h x y (GR n m (GM g)) p q = true) → OK (f_M_fitAll_L63 201 (nI x) (nI y) k N (bI fl) (nI (25 * p + q) + 1) g) Q := by
      intro w
      rw [nI_1]
      refine ih (25 * p + q + 1, fl, g) ⟨by dsimp only; omega, ?_⟩ (by dsimp only; omega)
      obtain ⟨s1, s0, s2, s3, s4⟩ := h2
      refine ⟨s1, s0, s2, fun u => ⟨(s3 u).1, fun p' q' v1 v2 => ?_⟩, s4⟩
      dsimp only at v1
      by_cases v : 25 * p' + q' < 25 * p + q
      · exact (s3 u).2 p' q' v v2
      · have pq : p' ≤ n ∧ q' ≤ m := by unfold GR at v2; simp at v2; exact v2.1
        have e1 : p' = p := by omega
        have e2 : q' = q := by omega
        subst e1; subst e2
        exact w v2
    cases c1 : GM g p q with
    | false =>
      rw [if_pos rfl]
      exact stay (fun w => by unfold GR at w; rw [c1] at w; simp at w)
    | true =>
      rw [if_neg (by decide)]
      have rng : p ≤ n ∧ q ≤ m := by
        apply Classical.byContradiction
        intro w
        have := h2.2.1.2 p q hp hq w
        rw [vz, c1] at this
        exact absurd this (by decide)
      have same : okB g x y (GM g) p q = okB h x y (GM g) p q := okB_same (f231_nx f) (f231_en f) x y (GM g) p q
      rw [d2, d1, cv_n (kk201 lg), may_M lg U1 U2 hx hy h2.2.1 rng.1 rng.2, Option.bind_some, same]
      simp only [bI0]
      cases c2 : okB h x y (GM g) p q with
      | false =>
        rw [if_pos rfl, wZ_n (show 4 ≤ 231 by decide) (kk231 lg) hz (by decide), Option.bind_some, nI_1]
        exact ih (25 * p + q + 1, true, _) ⟨by dsimp only; omega, h2.drop T1 T2 rng.1 rng.2 c1 c2⟩ (by dsimp only; omega)
      | true =>
        rw [if_neg (by decide)]
        exact stay (fun _ => by rw [ok_GR T1 T2 rng.1 rng.2]; exact c2)
  · have : z = 625 := by omega
    subst this
    simp only [f_M_fitAll_L63, show ¬ nI 625 < 625 by decide, if_false]
    exact hk fl g h2
theorem turns_M (hl : Lay h) (T1 : TK h x a n) (T2 : TK h y b m) (hx : x < 6) (hy : y < 6) : ∀ N (s : Bool × AH), (Dfr (OnC 231) h s.2 ∧ ZO n m s.2 ∧ (∀ C, Cl h x y n m C → ∀ p q, C p q = true → GR n m (GM s.2) p q = true) ∧ (s.1 = false → Cl h x y n m (GR n m (GM s.2)))) → (if s.1 = true then crd (GR n m (GM s.2)) + 1 else 0) < N → OK (f_M_fitAll_L54 201 (nI x) (nI y) N (bI s.1) s.2) (fun g => Dfr (OnC 231) h g ∧ ZO n m g ∧ GF h x y n m (GR n m (GM g))) := by
  refine loopU (fun N (s : Bool × AH) => f_M_fitAll_L54 201 (nI x) (nI y) N (bI s.1) s.2) _ (fun s => if s.1 = true then crd (GR n m (GM s.2)) + 1 else 0) _ ?_
  intro N s ⟨h2, h0, h3, h4⟩ ih
  obtain ⟨fl, g⟩ := s
  dsimp only at h2 h0 h3 h4 ih ⊢
  cases fl with
  | false =>
    simp only [f_M_fitAll_L54, bI, Bool.false_eq_true, if_false, if_true]
    exact OK.mk ⟨h2, h0, h4 rfl, h3⟩
  | true =>
    simp only [f_M_fitAll_L54, bI, if_true, show ¬ ((1 : Int32) = 0) by decide, if_false]
    refine passF_M (g0 := g) hl T1 T2 hx hy _ (fun fl' g' s' => ?_) FU (0, false, g) ⟨by simp, h2, h0, h3, fun _ => ⟨rfl, fun p q v => absurd v (by simp)⟩, fun z => (nomatch z)⟩ (by show 625 - 0 < FU; unfold FU; omega)
    obtain ⟨e2, e0, e3, e4, e5⟩ := s'
    refine ih (fl', g') ⟨e2, e0, e3, fun w p q u => ?_⟩ ?_
    · have pq : p ≤ n ∧ q ≤ m := by dsimp only at u; unfold GR at u; simp at u; exact u.1
      have t1 := T1.1
      have t2 := T2.1
      exact ⟨pq.1, pq.2, (e4 w).2 p q (by omega) u⟩
    · dsimp only
      cases fl' with
      | false => simp
      | true => have := e5 rfl; simp; omega
theorem fitAll_M (hl : Lay h) (T1 : TK h x a n) (T2 : TK h y b m) (hx : x < 6) (hy : y < 6) : OK (f_M_fitAll h 201 (nI x) (nI y)) (fun g => Dfr (OnC 231) h g ∧ ZO n m g ∧ GF h x y n m (GR n m (GM g))) := by
  have t1 := T1.1
  have t2 := T2.1
  have main : ∀ N (s : Nat × AH), (s.1 ≤ 625 ∧ Dfr (OnC 231) h s.2 ∧ ∀ z, z < s.1 → hI s.2 231 z = bI (decide (z / 25 ≤ n) && decide (z % 25 ≤ m))) → 625 - s.1 < N → OK (f_M_fitAll_L2 201 (nI x) (nI y) (fun h11 => f_M_fitAll_L54 201 (nI x) (nI y) FU (1 : Int32) h11) N (nI s.1) s.2) (fun g => Dfr (OnC 231) h g ∧ ZO n m g ∧ GF h x y n m (GR n m (GM g))) := by
    refine loopU (fun N (s : Nat × AH) => f_M_fitAll_L2 201 (nI x) (nI y) (fun h11 => f_M_fitAll_L54 201 (nI x) (nI y) FU (1 : Int32) h11) N (nI s.1) s.2) _ (fun s => 625 - s.1) _ ?_
    intro N s ⟨h1, h2, h3⟩ ih
    obtain ⟨z, g⟩ := s
    dsimp only at h1 h2 h3 ih ⊢
    have lg := h2.lay hl
    have e1 : hI g 203 x = nI n := by rw [h2.I (by unfold OnC; omega)]; exact T1.2.2.2.2.2.2.1
    have e2 : hI g 203 y = nI m := by rw [h2.I (by unfold OnC; omega)]; exact T2.2.2.2.2.2.2.1
    by_cases hz : z < 625
    · have qz : nI z < 625 := nI_lt (b := 625) hz (by decide)
      have d1 : nI z / (25 : Int32) = nI (z / 25) := pk_div (a := z) (d := 25) (by omega) (by decide) (by decide)
      have d2 : nI z - nI z / (25 : Int32) * (25 : Int32) = nI (z % 25) := pk_rem (a := z) (d := 25) (by omega) (by decide) (by decide)
      have e8 : ((if nI n < nI (z / 25) then some (0 : Int32) else if nI m < nI (z % 25) then some (0 : Int32) else some (1 : Int32)) : Option Int32) = some (bI (decide (z / 25 ≤ n) && decide (z % 25 ≤ m))) := by
        by_cases w1 : z / 25 ≤ n
        · rw [if_neg (nI_nlt w1 (by omega)), decide_eq_true w1]
          by_cases w2 : z % 25 ≤ m
          · rw [if_neg (nI_nlt w2 (by omega)), decide_eq_true w2]; rfl
          · rw [if_pos (nI_lt (by omega) (by omega)), decide_eq_false w2]; rfl
        · rw [if_pos (nI_lt (by omega) (by omega)), decide_eq_false w1]; rfl
      simp only [f_M_fitAll_L2, qz, if_true, gR_n (kk201 lg), LR lg, Option.bind_some, rI_n (kk203 lg) hx (by decide), rI_n (kk203 lg) hy (by decide), e1, e2]
      rw [d2, d1, e8, Option.bind_some, wZ_n (show 4 ≤ 231 by decide) (kk231 lg) hz (by decide), Option.bind_some, nI_1, bI_and1]
      refine ih (z + 1, uI g 231 z _) ⟨by dsimp only; omega, h2.trans (Dfr.uI (by decide) rfl), fun w hw => ?_⟩ (by dsimp only; omega)
      dsimp only at hw ⊢
      by_cases u : w = z
      · subst u; rw [hI_eq]
      · rw [hI_ne (by omega)]; exact h3 w (by omega)
    · have : z = 625 := by omega
      subst this
      simp only [f_M_fitAll_L2, show ¬ nI 625 < 625 by decide, if_false]
      have zo : ZO n m g := by
        refine ⟨fun z hz => ?_, fun p q hp hq w => ?_⟩
        · rw [h3 z hz]; cases (decide (z / 25 ≤ n) && decide (z % 25 ≤ m)) <;> decide
        · rw [h3 _ (by omega), show (25 * p + q) / 25 = p by omega, show (25 * p + q) % 25 = q by omega]
          by_cases u : p ≤ n
          · rw [decide_eq_false (show ¬ q ≤ m from fun v => w ⟨u, v⟩)]; simp [bI]
          · rw [decide_eq_false u]; simp [bI]
      refine turns_M hl T1 T2 hx hy FU (true, g) ⟨h2, zo, fun C hC p q c => ?_, fun w => (nomatch w)⟩ (by have := crd_le (GR n m (GM g)); simp; unfold FU; omega)
      obtain ⟨c1, c2, _⟩ := hC p q c
      have : GM g p q = true := by
        unfold GM
        rw [h3 _ (by omega), show (25 * p + q) / 25 = p by omega, show (25 * p + q) % 25 = q by omega, decide_eq_true c1, decide_eq_true c2]
        decide
      unfold GR
      simp [c1, c2, this]
  exact main FU (0, h) ⟨by simp, Dfr.refl, fun z hz => absurd hz (by simp)⟩ (by show 625 - 0 < FU; unfold FU; omega)
end FM
section OF
variable {h : AH} {tn : Nat} {ta ts : Nat → Nat}
def SFit (a k : Nat) : Prop := a = 231 ∨ a = 99 ∨ (a = 98 ∧ (k = 1 ∨ k = 2))
theorem GF.same {h g : AH} {x y n m : Nat} {G : Nat → Nat → Bool} (e1 : nx g = nx h) (e2 : en g = en h) (a : GF g x y n m G) : GF h x y n m G := by
  have cl : ∀ C, Cl g x y n m C ↔ Cl h x y n m C := by
    intro C
    unfold Cl
    constructor
    · intro z p q c; obtain ⟨z1, z2, z3⟩ := z p q c; exact ⟨z1, z2, by rw [← okB_same e1 e2]; exact z3⟩
    · intro z p q c; obtain ⟨z1, z2, z3⟩ := z p q c; exact ⟨z1, z2, by rw [okB_same e1 e2]; exact z3⟩
  exact ⟨(cl _).mp a.1, fun C hC => a.2 C ((cl C).mpr hC)⟩
/-- both look for the states that fit, one behind the other -/
theorem both_fit (hl : Lay h) (rt : RTalks h tn ta ts) {x y : Nat} (hx : x < tn) (hy : y < tn) : ∃ h1 h2, f_Fi_compare h 98 (some (ta x)) (some (ta y)) = some h1 ∧ Lay h1 ∧ RTalks h1 tn ta ts ∧ f_M_fitAll h1 201 (nI x) (nI y) = some h2 ∧ Lay h2 ∧ Fr SFit h h1 ∧ Dfr (OnC 231) h1 h2 ∧ ∀ p q, p ≤ ts x → q ≤ ts y → GC h1 p q = GM h2 p q ∧ hI h2 231 (25 * p + q) = bI (GM h2 p q) := by
  have h6 := rt.1
  have T1 := (rt.2.2.2 x hx).2
  have T2 := (rt.2.2.2 y hy).2
  have t1 := T1.1
  have t2 := T2.1
  obtain ⟨h1, e1, f1, l1, gf1⟩ := compare_C hl T1 T2
  have rt1 : RTalks h1 tn ta ts := rt.ag hl.2.2.2.2.2.2 (f1.ag (by unfold FTalk SFi; omega))
  obtain ⟨h2, e2, f2, zo, gf2⟩ := fitAll_M l1 (rt1.2.2.2 x hx).2 (rt1.2.2.2 y hy).2 (show x < 6 by omega) (show y < 6 by omega)
  have nxe : nx h1 = nx h := by funext t s k; exact f1.I (by unfold SFi; omega)
  have ene : en h1 = en h := by funext t s; exact f1.I (by unfold SFi; omega)
  have u := gf1.uni (gf2.same nxe ene)
  refine ⟨h1, h2, e1, l1, rt1, e2, f2.lay l1, f1.mono (fun a k z => Or.inr z), f2, fun p q hp hq => ⟨?_, zo.v (by omega) (by omega)⟩⟩
  have := u p q
  unfold GR at this
  simpa [hp, hq] using this
theorem o_fit (hl : Lay h) (rt : RTalks h tn ta ts) (x y : Int32) : ∃ r h1 h2, f_C_fit h 4 x y = some (r, h1) ∧ f_M_fit h1 201 x y = some (r, h2) ∧ Lay h2 ∧ Fr SFit h h2 := by
  have h6 := rt.1
  obtain ⟨c1, c2⟩ := talkC hl rt
  by_cases hx : ∃ t, t < tn ∧ x = nI t
  · obtain ⟨x, hx, rfl⟩ := hx
    by_cases hy : ∃ t, t < tn ∧ y = nI t
    · obtain ⟨y, hy, rfl⟩ := hy
      obtain ⟨h1, h2, e1, l1, rt1, e2, l2, f1, f2, v⟩ := both_fit hl rt hx hy
      obtain ⟨d1, d2⟩ := talkC l1 rt1
      obtain ⟨v1, v2⟩ := v 0 0 (Nat.zero_le _) (Nat.zero_le _)
      refine ⟨bI (GC h1 0 0), h1, h2, ?_, ?_, l2, f1.trans (f2.fr.mono (fun a k z => Or.inl z))⟩
      · have ho : f_Fi_holds h1 98 (0 : Int32) (0 : Int32) = some (bI (GC h1 0 0)) := holds_C l1 (p := 0) (q := 0) (by decide)
        simp only [f_C_fit, cv_n (kk4 hl), (c1 x hx).1, (c1 y hy).1, Option.bind_some, onl, gR_n (kk4 hl), LR hl, cv_n (c := 2) (kk98 hl), e1, gR_n (kk4 l1), LR l1, cv_n (c := 2) (kk98 l1), ho]
        exact bI_if _ h1
      · have ri : rI 2 h2 231 (0 : Int32) = some (bI (GC h1 0 0)) := by
          have := rI_n (j := 0) (kk231 l2) (by decide) (by decide)
          rw [show hI h2 231 0 = bI (GM h2 0 0) from v2, ← v1] at this
          exact this
        simp only [f_M_fit, cv_n (kk201 l1), (d1 x hx).2, (d1 y hy).2, Option.bind_some, show ¬ ((1 : Int32) = 0) by decide, if_false, e2, gR_n (kk201 l2), LR l2, ri]
        exact bI_if _ h2
    · refine ⟨-101, h, h, ?_, ?_, hl, Fr.rfl'⟩
      · simp only [f_C_fit, cv_n (kk4 hl), (c1 x hx).1, (c2 y hy).1, Option.bind_some, onl]
      · simp only [f_M_fit, cv_n (kk201 hl), (c1 x hx).2, (c2 y hy).2, Option.bind_some, show ¬ ((1 : Int32) = 0) by decide, if_false, if_true]
  · refine ⟨-101, h, h, ?_, ?_, hl, Fr.rfl'⟩
    · by_cases hy : ∃ t, t < tn ∧ y = nI t
      · obtain ⟨y, hy, rfl⟩ := hy
        simp only [f_C_fit, cv_n (kk4 hl), (c2 x hx).1, (c1 y hy).1, Option.bind_some, onl]
      · simp only [f_C_fit, cv_n (kk4 hl), (c2 x hx).1, (c2 y hy).1, Option.bind_some, onl]
    · simp only [f_M_fit, cv_n (kk201 hl), (c2 x hx).2, Option.bind_some, if_true]
theorem swapL (hl1 : Lay h) {h2 : AH} (l2 : Lay h2) (rt1 : RTalks h tn ta ts) {x q : Nat} (hx : x < tn) (e3 : hI h2 203 x = nI (ts x)) (hq : q ≤ 24) (v : ∀ p, p ≤ ts x → GC h p q = GM h2 p q ∧ hI h2 231 (25 * p + q) = bI (GM h2 p q)) : ∃ r, f_C_swap_L50 h 4 (nI q) (ta x) FU 0 = some (r, h) ∧ f_M_swap_L29 h2 201 (nI x) (nI q) FU 0 = some (r, h2) := by
  have h6 := rt1.1
  have T1 := (rt1.2.2.2 x hx).2
  have t1 := T1.1
  have main : ∀ d p, p + d = ts x + 1 → ∃ r, (∀ n, d < n → f_C_swap_L50 h 4 (nI q) (ta x) n (nI p) = some (r, h)) ∧ ∀ n, d < n → f_M_swap_L29 h2 201 (nI x) (nI q) n (nI p) = some (r, h2) := by
    intro d
    induction d with
    | zero =>
      intro p hp
      have : p = ts x + 1 := by omega
      subst this
      refine ⟨-1, fun n hn => ?_, fun n hn => ?_⟩
      · obtain ⟨n, rfl⟩ : ∃ q, n = q + 1 := ⟨n - 1, by omega⟩
        simp only [f_C_swap_L50, T1.steps, Option.bind_some, nI_lt (show ts x < ts x + 1 by omega) (by omega), if_true]
      · obtain ⟨n, rfl⟩ : ∃ q, n = q + 1 := ⟨n - 1, by omega⟩
        simp only [f_M_swap_L29, gR_n (kk201 l2), LR l2, Option.bind_some, rI_n (kk203 l2) (show x < 6 by omega) (by decide), e3, nI_lt (show ts x < ts x + 1 by omega) (by omega), if_true]
    | succ d ih =>
      intro p hp
      obtain ⟨r, a1, a2⟩ := ih (p + 1) (by omega)
      have hp' : p ≤ ts x := by omega
      obtain ⟨v1, v2⟩ := v p hp'
      have ix : ((25 : Int32) * nI p) + nI q = nI (25 * p + q) := by rw [show (25 : Int32) = nI 25 from rfl, pk_mul, nI_add]
      refine ⟨if GC h p q = false then r else nI p, fun n hn => ?_, fun n hn => ?_⟩
      · obtain ⟨n, rfl⟩ : ∃ q, n = q + 1 := ⟨n - 1, by omega⟩
        simp only [f_C_swap_L50, T1.steps, Option.bind_some, nI_nlt hp' (by omega), if_false, gR_n (kk4 hl1), LR hl1, cv_n (c := 2) (kk98 hl1), holds_C hl1 (show p ≤ 24 by omega), nI_1, bI0]
        cases GC h p q with
        | false => rw [if_pos rfl, if_pos rfl]; exact a1 n (by omega)
        | true => rfl
      · obtain ⟨n, rfl⟩ : ∃ q, n = q + 1 := ⟨n - 1, by omega⟩
        simp only [f_M_swap_L29, gR_n (kk201 l2), LR l2, Option.bind_some, rI_n (kk203 l2) (show x < 6 by omega) (by decide), e3, nI_nlt hp' (by omega), if_false, ix, rI_n (kk231 l2) (show 25 * p + q < 625 by omega) (by decide), v2, ← v1, nI_1, bI0]
        cases GC h p q with
        | false => rw [if_pos rfl, if_pos rfl]; exact a2 n (by omega)
        | true => rfl
  obtain ⟨r, a1, a2⟩ := main (ts x + 1) 0 (by omega)
  exact ⟨r, a1 FU (by unfold FU; omega), a2 FU (by unfold FU; omega)⟩
theorem o_swap (hl : Lay h) (rt : RTalks h tn ta ts) (x y z : Int32) : ∃ r h1 h2, f_C_swap h 4 x y z = some (r, h1) ∧ f_M_swap h1 201 x y z = some (r, h2) ∧ Lay h2 ∧ Fr SFit h h2 := by
  have h6 := rt.1
  obtain ⟨c1, c2⟩ := talkC hl rt
  by_cases hx : ∃ t, t < tn ∧ x = nI t
  · obtain ⟨x, hx, rfl⟩ := hx
    by_cases hy : ∃ t, t < tn ∧ y = nI t
    · obtain ⟨y, hy, rfl⟩ := hy
      obtain ⟨s1, s2⟩ := stateC hl rt hy z
      have t2 := (rt.2.2.2 y hy).2.1
      by_cases hz : ∃ q, q < ts y + 1 ∧ z = nI q
      · obtain ⟨q, hq, rfl⟩ := hz
        rw [if_neg (nI_n0 q (by omega)), if_pos (nI_lt hq (by omega))] at s1 s2
        obtain ⟨h1, h2, e1, l1, rt1, e2, l2, f1, f2, v⟩ := both_fit hl rt hx hy
        obtain ⟨d1, d2⟩ := talkC l1 rt1
        obtain ⟨u1, u2⟩ := stateC l1 rt1 hy (nI q)
        rw [if_neg (nI_n0 q (by omega)), if_pos (nI_lt hq (by omega))] at u2
        have e3 : hI h2 203 x = nI (ts x) := by rw [f2.I (by unfold OnC; omega)]; exact (rt1.2.2.2 x hx).2.2.2.2.2.2.2.1
        obtain ⟨r, r1, r2⟩ := swapL l1 l2 rt1 hx e3 (show q ≤ 24 by omega) (fun p hp => v p q hp (by omega))
        refine ⟨r, h1, h2, ?_, ?_, l2, f1.trans (f2.fr.mono (fun a k z => Or.inl z))⟩
        · simp only [f_C_swap, cv_n (kk4 hl), (c1 x hx).1, (c1 y hy).1, Option.bind_some, onl, cv_n (c := 9) (rt.2.2.2 y hy).2.2.2.2.1.1, s1, show ¬ ((1 : Int32) = 0) by decide, if_false, gR_n (kk4 hl), LR hl, cv_n (c := 2) (kk98 hl), e1]
          exact r1
        · simp only [f_M_swap, cv_n (kk201 l1), (d1 x hx).2, u2, Option.bind_some, show ¬ ((1 : Int32) = 0) by decide, if_false, e2]
          exact r2
      · have no : (if z < 0 then (0 : Int32) else if z < nI (ts y + 1) then 1 else 0) = 0 := by
          rcases ix_cases z (n := ts y + 1) (by omega) with ⟨j, j1, j2⟩ | h0 | ⟨h0, h1⟩
          · exact absurd ⟨j, j1, j2⟩ hz
          · rw [if_pos h0]
          · rw [if_neg h0, if_neg h1]
        rw [no] at s1 s2
        refine ⟨-101, h, h, ?_, ?_, hl, Fr.rfl'⟩
        · simp only [f_C_swap, cv_n (kk4 hl), (c1 x hx).1, (c1 y hy).1, Option.bind_some, onl, cv_n (c := 9) (rt.2.2.2 y hy).2.2.2.2.1.1, s1, if_true]
        · simp only [f_M_swap, cv_n (kk201 hl), (c1 x hx).2, s2, Option.bind_some, show ¬ ((1 : Int32) = 0) by decide, if_false, if_true]
    · have ns : f_M_isState h 201 y z = some 0 := by
        simp only [f_M_isState, cv_n (kk201 hl), (c2 y hy).2, Option.bind_some, if_true]
      refine ⟨-101, h, h, ?_, ?_, hl, Fr.rfl'⟩
      · simp only [f_C_swap, cv_n (kk4 hl), (c1 x hx).1, (c2 y hy).1, Option.bind_some, onl]
      · simp only [f_M_swap, cv_n (kk201 hl), (c1 x hx).2, ns, Option.bind_some, show ¬ ((1 : Int32) = 0) by decide, if_false, if_true]
  · refine ⟨-101, h, h, ?_, ?_, hl, Fr.rfl'⟩
    · by_cases hy : ∃ t, t < tn ∧ y = nI t
      · obtain ⟨y, hy, rfl⟩ := hy
        simp only [f_C_swap, cv_n (kk4 hl), (c2 x hx).1, (c1 y hy).1, Option.bind_some, onl]
      · simp only [f_C_swap, cv_n (kk4 hl), (c2 x hx).1, (c2 y hy).1, Option.bind_some, onl]
    · simp only [f_M_swap, cv_n (kk201 hl), (c2 x hx).2, Option.bind_some, if_true]
end OF
