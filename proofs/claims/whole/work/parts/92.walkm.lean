/-! THE REFERENCE'S WALK WHOLE, at once -/
section WM
variable {h g : AH} {x y a b n m : Nat} {S : WSt} {t : Nat}
theorem f39 (B V : Bool) (e1 e2 : Int32) (h1 : e1 = 0 ∨ e1 = 1) (h2 : e2 = 0 ∨ e2 = 1) : ((if bI B = (0 : Int32) then (if bI V = (0 : Int32) then (if bI (decide (e1 = 1 ∧ e2 = 1)) = (0 : Int32) then some (1 : Int32) else some (0 : Int32)) else some (0 : Int32)) else some (2 : Int32)) : Option Int32) = some (nI (if B = true then 2 else if V = true then 0 else if e1 = 1 ∧ e2 = 1 then 0 else 1)) := by
  cases B with
  | true => rfl
  | false =>
    cases V with
    | true => rfl
    | false =>
      by_cases q : e1 = 1 ∧ e2 = 1
      · rw [decide_eq_true q, if_pos q]; rfl
      · rw [decide_eq_false q, if_neg q]; rfl
/-- what stands behind a place's pass -/
theorem behind_M (hl : Lay h) (T1 : TK h x a n) (T2 : TK h y b m) (hx : x < 6) (hy : y < 6) (C : MW0 h n m g S) {p : Pl} (hp1 : p.1 ≤ n) (hp2 : p.2.1 ≤ m) (v : hI g 225 t = nI (c0 p)) (ht : t < 4000) (sA hA sB hB : Mc) (v45 : hI g 201 45 = bI (unh sA hA sB hB p 8)) (v46 : hI g 201 46 = bI (mvd sA hA sB hB p 8)) {ρ : Type} (k : Int32 → Option ρ) :
    ((gR 12 g 201 5).bind fun r6 =>
        (gR 12 g 201 39).bind fun r7 =>
        (r7).bind fun a8 =>
        (rI 1 g a8 (nI t)).bind fun x9 =>
        (r6).bind fun a10 =>
        (rI 2 g a10 (((25 : Int32) * nI x) + (x9 / (25 : Int32)))).bind fun x11 =>
        (
          if x11 = (0 : Int32) then
            some ((0 : Int32))
          else
            (gR 12 g 201 5).bind fun r12 =>
            (gR 12 g 201 39).bind fun r13 =>
            (r13).bind fun a14 =>
            (rI 1 g a14 (nI t)).bind fun x15 =>
            (r12).bind fun a16 =>
            (rI 2 g a16 (((25 : Int32) * nI y) + (x15 - x15 / (25 : Int32) * (25 : Int32)))).bind fun x17 =>
            if x17 = (0 : Int32) then
              some ((0 : Int32))
            else
              some ((1 : Int32))
        ).bind fun x18 =>
        (gI 12 g 201 45).bind fun x19 =>
        (
          if x19 = (0 : Int32) then
            (gI 12 g 201 46).bind fun x20 =>
            if x20 = (0 : Int32) then
              if x18 = (0 : Int32) then
                some ((1 : Int32))
              else
                some ((0 : Int32))
            else
              some ((0 : Int32))
          else
            some ((2 : Int32))
        ).bind fun x21 => k x21) = k (nI (fnd0 sA hA sB hB (en h x) (en h y) p)) := by
  have t1 := T1.1
  have t2 := T2.1
  have lg := C.1.lay hl
  unfold c0 at v
  have d1 : nI (25 * p.1 + p.2.1) / (25 : Int32) = nI p.1 := by
    have := pk_div (a := 25 * p.1 + p.2.1) (d := 25) (by omega) (by decide) (by decide)
    rw [show (25 * p.1 + p.2.1) / 25 = p.1 by omega] at this; exact this
  have d2 : nI (25 * p.1 + p.2.1) - nI (25 * p.1 + p.2.1) / (25 : Int32) * (25 : Int32) = nI p.2.1 := by
    have := pk_rem (a := 25 * p.1 + p.2.1) (d := 25) (by omega) (by decide) (by decide)
    rw [show (25 * p.1 + p.2.1) % 25 = p.2.1 by omega] at this; exact this
  have ix : ∀ j j', ((25 : Int32) * nI j) + nI j' = nI (25 * j + j') := fun j j' => by rw [show (25 : Int32) = nI 25 from rfl, pk_mul, nI_add]
  have E1 : hI g 205 (25 * x + p.1) = en h x p.1 := by have := smw_en C.1; rw [← this]; rfl
  have E2 : hI g 205 (25 * y + p.2.1) = en h y p.2.1 := by have := smw_en C.1; rw [← this]; rfl
  simp only [gR_n (kk201 lg), LR lg, ob_v, rI_n (kk225 lg) (show t < 4001 by omega) (by decide), v]
  rw [d2, d1]
  simp only [ix, rI_n (kk205 lg) (show 25 * x + p.1 < 150 by omega) (by decide), rI_n (kk205 lg) (show 25 * y + p.2.1 < 150 by omega) (by decide), E1, E2, ob_v]
  rw [en_if _ _ (T1.en01 hp1) (T2.en01 hp2), ob_v]
  simp only [gI_n (kk201 lg), v45, v46, ob_v]
  rw [f39 _ _ _ _ (T1.en01 hp1) (T2.en01 hp2), ob_v]
  rfl
theorem walk1_M (hl : Lay h) (og : OG h) (T1 : TK h x a n) (T2 : TK h y b m) (hx : x < 6) (hy : y < 6) {R : WSt × Nat × Nat} :
    ∀ d t N (g : AH) (S : WSt) (f w : Nat), t + d = 4001 → d < N → MW0 h n m g S → f < 3 → (¬ f = 0 → hI g 201 47 = nI w ∧ w < S.1.1) → bfs 0 (sO h x) (hO h x) (sX h y) (hX h y) (en h x) (en h y) d t S f w = R →
    OK (f_M_walk_L18 201 (nI x) (nI y) 1 N (nI f) (nI t) g) (fun q => q.1 = nI R.2.1 ∧ MW0 h n m q.2 R.1 ∧ R.2.1 < 3 ∧ (¬ R.2.1 = 0 → hI q.2 201 47 = nI R.2.2 ∧ R.2.2 < R.1.1.1) ∧ R.1.1.2 = false) := by
  have t1 := T1.1
  have t2 := T2.1
  intro d
  induction d with
  | zero =>
    intro t N g S f w h1 h2 C f3 W e
    obtain ⟨N, rfl⟩ : ∃ q, N = q + 1 := ⟨N - 1, by omega⟩
    have lg := C.1.lay hl
    have w1 := C.2.1.1
    rw [bfs] at e
    subst e
    simp only [f_M_walk_L18, gI_n (kk201 lg), C.2.2.2.1, ob_v, nI_nlt (show S.1.1 ≤ t by omega) (by omega), if_false]
    exact OK.mk ⟨rfl, C, f3, W, (few0 t1 t2 C.2.1 C.2.2.1).2⟩
  | succ d ih =>
    intro t N g S f w h1 h2 C f3 W e
    obtain ⟨N, rfl⟩ : ∃ q, N = q + 1 := ⟨N - 1, by omega⟩
    have lg := C.1.lay hl
    have w1 := C.2.1.1
    have sp := (few0 t1 t2 C.2.1 C.2.2.1).2
    rw [bfs] at e
    by_cases q : t < S.1.1
    · rw [if_pos ⟨q, sp⟩] at e
      obtain ⟨p1, p2, p3, p4⟩ := C.2.2.1 t q
      obtain ⟨g1, e1, C1, v45, v46, v47, le, same⟩ := passW_M hl og T1 T2 hx hy q C
      have es : stW 0 (sO h x) (hO h x) (sX h y) (hX h y) t (S.2.1 t) S = ex0 (sO h x) (hO h x) (sX h y) (hX h y) t (S.2.1 t) 8 S := by unfold stW; rw [if_pos rfl]
      have ef : fdW 0 (sO h x) (hO h x) (sX h y) (hX h y) (en h x) (en h y) (S.2.1 t) = fnd0 (sO h x) (hO h x) (sX h y) (hX h y) (en h x) (en h y) (S.2.1 t) := by unfold fdW; rw [if_pos rfl]
      rw [es, ef] at e
      obtain ⟨S', eS'⟩ : ∃ S', S' = ex0 (sO h x) (hO h x) (sX h y) (hX h y) t (S.2.1 t) 8 S := ⟨_, rfl⟩
      rw [← eS'] at e C1 le same
      have v225 : hI g1 225 t = nI (c0 (S.2.1 t)) := by
        have := C1.2.2.2.2.1 t (by omega)
        rw [same t q] at this; exact this
      obtain ⟨v, ev⟩ : ∃ v, v = fnd0 (sO h x) (hO h x) (sX h y) (hX h y) (en h x) (en h y) (S.2.1 t) := ⟨_, rfl⟩
      have v3 : v < 3 := by rw [ev, ← ef]; exact fdW_lt _ _ _ _ _ _ _ _
      have B := fun {ρ : Type} (k : Int32 → Option ρ) => behind_M hl T1 T2 hx hy C1 p1 p2 v225 (by omega) (sO h x) (hO h x) (sX h y) (hX h y) v45 v46 k
      rw [← ev] at e B
      have l1 := C1.1.lay hl
      have q1 : ¬ ((1 : Int32) = 0) := by decide
      simp only [f_M_walk_L18, gI_n (kk201 lg), C.2.2.2.1, ob_v, nI_lt q (by omega), if_true, q1, if_false, cv_n (kk201 lg), e1]
      rw [B]
      by_cases fz : f = 0
      · subst fz
        rw [if_pos (show nI 0 = 0 from rfl)]
        by_cases vz : v = 0
        · subst vz
          rw [if_neg (show ¬ (0 : Int32) < nI 0 by decide), nI_1]
          rw [if_pos rfl, if_neg (by simp)] at e
          exact ih (t + 1) N g1 S' 0 w (by omega) (by omega) C1 (by decide) (fun z => absurd rfl z) e
        · rw [if_pos (show (0 : Int32) < nI v from nI_lt (a := 0) (by omega) (by omega))]
          rw [if_pos rfl, if_pos ⟨rfl, vz⟩] at e
          obtain ⟨g2, e2⟩ : ∃ g2, g2 = uI g1 201 47 (nI t) := ⟨_, rfl⟩
          have p2 : pI 12 g1 201 47 (nI t) = some g2 := by rw [e2]; exact pI_n (kk201 l1)
          have f2 : Dfr SMw g1 g2 := by rw [e2]; exact Dfr.uI (by decide) (by unfold SMw; omega)
          have C2 : MW0 h n m g2 S' := ⟨C1.1.trans f2, C1.2.fr (fun a k z => by rw [e2, hI_ne (by omega)])⟩
          rw [p2, ob_v, nI_1]
          exact ih (t + 1) N g2 S' v t (by omega) (by omega) C2 v3 (fun _ => ⟨by rw [e2, hI_eq], by omega⟩) e
      · rw [if_neg (nI_ne0 (by omega) (by omega)), nI_1]
        rw [if_neg fz, if_neg (fun z => fz z.1)] at e
        exact ih (t + 1) N g1 S' f w (by omega) (by omega) C1 f3 (fun z => ⟨by rw [v47]; exact (W z).1, by have := (W z).2; omega⟩) e
    · rw [if_neg (fun z => q z.1)] at e
      subst e
      simp only [f_M_walk_L18, gI_n (kk201 lg), C.2.2.2.1, ob_v, nI_nlt (show S.1.1 ≤ t by omega) (by omega), if_false]
      exact OK.mk ⟨rfl, C, f3, W, sp⟩
/-- a walk is begun -/
theorem begin0_M (hl : Lay h) (hn : n ≤ 24) (hm : m ≤ 24) : ∃ g1 r g2, f_M_restart h 201 = some g1 ∧ Lay g1 ∧ f_M_isNew g1 201 0 0 0 = some (r, g2) ∧ MW0 h n m g2 S01 := by
  obtain ⟨g1, e1, f1, c1⟩ := restart_M (cf := c0) (PD := PD0 n m) hl
  have l1 := f1.lay hl
  obtain ⟨⟨r, g2⟩, e2, _, f2, c2⟩ := isNew_M l1 (cf0 hn hm) (show MK c0 (PD0 n m) g1 S00 from c1) (p := (0, 0, 0, 0)) (par := 0) (act := 0) (pi := 0) (ai := 0) ⟨Nat.zero_le _, Nat.zero_le _, rfl, rfl⟩ (fun z => absurd z (by show ¬ 0 < 0; decide))
  refine ⟨g1, r, g2, e1, l1, ?_, ⟨(f1.mono (fun a k z => Or.inl z)).trans (f2.mono (fun a k z => Or.inl z)), c2⟩⟩
  exact e2
theorem walkJ_M (hl : Lay h) (og : OG h) (T1 : TK h x a n) (T2 : TK h y b m) (hx : x < 6) (hy : y < 6) {R : WSt × Nat × Nat} (hR' : bfs 0 (sO h x) (hO h x) (sX h y) (hX h y) (en h x) (en h y) 4001 0 S01 0 0 = R) :
    OK (f_M_walk h 201 (nI x) (nI y) 1) (fun q => q.1 = nI R.2.1 ∧ MW0 h n m q.2 R.1 ∧ R.2.1 < 3 ∧ (¬ R.2.1 = 0 → hI q.2 201 47 = nI R.2.2 ∧ R.2.2 < R.1.1.1) ∧ R.1.1.2 = false) := by
  obtain ⟨g1, r, g2, e1, l1, e2, C⟩ := begin0_M (n := n) (m := m) hl T1.1 T2.1
  simp only [f_M_walk, cv_n (kk201 hl), e1, ob_v, cv_n (kk201 l1), e2, bd2_v]
  exact walk1_M hl og T1 T2 hx hy 4001 0 FU g2 S01 0 0 rfl (by unfold FU; omega) C (by decide) (fun z => absurd rfl z) hR'
/-- the way, as the reference writes it -/
theorem traceTo_M {cf : Pl → Nat} {PD : Pl → Prop} (hl : Lay g) (C : MK cf PD g S) {z : Nat} (hz : z < S.1.1) : OK (f_M_traceTo g 201 (nI z)) (fun g' => Dfr (fun a k => (a = 201 ∧ k = 36) ∨ a = 224) g g' ∧ ∃ L, hI g' 201 36 = nI L ∧ WayA S z L (hI g' 224)) := by
  obtain ⟨W, C0, C1, C3, C4, C5⟩ := C
  obtain ⟨L, L1, L2, L3⟩ := ch_end W hz
  have w4 := W.1
  have chl : ∀ j, j ≤ L → ch S z j < 4000 := fun j hj => by have := ch_le W hz j (fun i hi => L3 i (by omega)); omega
  have chn : ∀ j, j < L → 0 < ch S z j ∧ ch S z j < S.1.1 := fun j hj => ⟨L3 j hj, by have := ch_le W hz j (fun i hi => L3 i (by omega)); omega⟩
  obtain ⟨g0, e0⟩ : ∃ g0, g0 = uI g 201 36 0 := ⟨_, rfl⟩
  have f0 : Dfr (fun a k => (a = 201 ∧ k = 36) ∨ a = 224) g g0 := by rw [e0]; exact Dfr.uI (by decide) (Or.inl ⟨rfl, rfl⟩)
  have p0 : pI 12 g 201 36 0 = some g0 := by rw [e0]; exact pI_n (kk201 hl)
  have second : ∀ (gF : AH), Dfr (fun a k => (a = 201 ∧ k = 36) ∨ a = 224) g gF → hI gF 201 36 = nI L → OK (f_M_traceTo_L38 201 FU (nI L) (nI (ch S z 0)) gF) (fun g' => Dfr (fun a k => (a = 201 ∧ k = 36) ∨ a = 224) g g' ∧ ∃ L, hI g' 201 36 = nI L ∧ WayA S z L (hI g' 224)) := by
    intro gF fF vF
    have main : ∀ N (s : Nat × AH), (s.1 ≤ L ∧ Dfr (fun a k => (a = 201 ∧ k = 36) ∨ a = 224) g s.2 ∧ hI s.2 201 36 = nI L ∧ ∀ i, L - s.1 ≤ i → i < L → hI s.2 224 i = nI (S.2.2.2 (ch S z (L - 1 - i)))) → L - s.1 < N → OK (f_M_traceTo_L38 201 N (nI (L - s.1)) (nI (ch S z s.1)) s.2) (fun g' => Dfr (fun a k => (a = 201 ∧ k = 36) ∨ a = 224) g g' ∧ ∃ L, hI g' 201 36 = nI L ∧ WayA S z L (hI g' 224)) := by
      refine loopU (fun N (s : Nat × AH) => f_M_traceTo_L38 201 N (nI (L - s.1)) (nI (ch S z s.1)) s.2) _ (fun s => L - s.1) _ ?_
      intro N s ⟨h1, h2, h3, h4⟩ ih
      obtain ⟨j, e⟩ := s
      dsimp only at h1 h2 h3 h4 ih ⊢
      have le := h2.lay hl
      by_cases q : j < L
      · obtain ⟨c1, c2⟩ := chn j q
        have c3 : (0 : Int32) < nI (ch S z j) := nI_lt (a := 0) c1 (by omega)
        have v6 : hI e 226 (ch S z j) = nI (S.2.2.1 (ch S z j)) := by rw [h2.I (by omega)]; exact (C4 _ c1 c2).1
        have v7 : hI e 227 (ch S z j) = nI (S.2.2.2 (ch S z j)) := by rw [h2.I (by omega)]; exact (C4 _ c1 c2).2
        have ix : nI (L - j) + (-1 : Int32) = nI (L - (j + 1)) := by
          rw [show L - j = (L - (j + 1)) + 1 by omega]; exact pk_m1 _
        obtain ⟨g1, e1⟩ : ∃ g1, g1 = uI e 224 (L - (j + 1)) (nI (S.2.2.2 (ch S z j))) := ⟨_, rfl⟩
        have f1 : Dfr (fun a k => (a = 201 ∧ k = 36) ∨ a = 224) e g1 := by rw [e1]; exact Dfr.uI (by decide) (Or.inr rfl)
        have l1 := f1.lay le
        have p1 : wI e 224 (nI (L - (j + 1))) (nI (S.2.2.2 (ch S z j))) = some g1 := by rw [e1]; exact wI_n (by decide) (kk224 le) (show L - (j + 1) < 4001 by omega) (by decide)
        have v6' : hI g1 226 (ch S z j) = nI (S.2.2.1 (ch S z j)) := by rw [f1.I (by omega)]; exact v6
        simp only [f_M_traceTo_L38, c3, if_true, gR_n (kk201 le), LR le, ob_v, rI_n (kk227 le) (show ch S z j < 4001 by omega) (by decide), v7, ix, p1, gR_n (kk201 l1), LR l1, rI_n (kk226 l1) (show ch S z j < 4001 by omega) (by decide), v6']
        refine ih (j + 1, g1) ⟨by dsimp only; omega, h2.trans f1, ?_, fun i i1 i2 => ?_⟩ (by dsimp only; omega)
        · dsimp only; rw [e1, hI_ne (by omega)]; exact h3
        · dsimp only at i1 ⊢
          rw [e1]
          by_cases w : i = L - (j + 1)
          · rw [w, hI_eq, show L - 1 - (L - (j + 1)) = j by omega]
          · rw [hI_ne (by omega)]; exact h4 i (by omega) i2
      · have : j = L := by omega
        subst this
        have c0' : ¬ (0 : Int32) < nI (ch S z j) := by rw [L2]; decide
        simp only [f_M_traceTo_L38, c0', if_false]
        exact OK.mk ⟨h2, j, h3, L1, L2, L3, fun i hi => h4 i (by omega) hi⟩
    exact main FU (0, gF) ⟨Nat.zero_le _, fF, vF, fun i i1 i2 => absurd i1 (by dsimp only; omega)⟩ (by show L - 0 < FU; unfold FU; omega)
  have first : ∀ N (s : Nat × AH), (s.1 ≤ L ∧ Dfr (fun a k => (a = 201 ∧ k = 36) ∨ a = 224) g s.2 ∧ hI s.2 201 36 = nI s.1) → L - s.1 < N → OK (f_M_traceTo_L7 201 (nI z) (fun h7 => (gI 12 h7 201 36).bind fun x8 => f_M_traceTo_L38 201 FU x8 (nI z) h7) N (nI (ch S z s.1)) s.2) (fun g' => Dfr (fun a k => (a = 201 ∧ k = 36) ∨ a = 224) g g' ∧ ∃ L, hI g' 201 36 = nI L ∧ WayA S z L (hI g' 224)) := by
    refine loopU (fun N (s : Nat × AH) => f_M_traceTo_L7 201 (nI z) (fun h7 => (gI 12 h7 201 36).bind fun x8 => f_M_traceTo_L38 201 FU x8 (nI z) h7) N (nI (ch S z s.1)) s.2) _ (fun s => L - s.1) _ ?_
    intro N s ⟨h1, h2, h3⟩ ih
    obtain ⟨j, e⟩ := s
    dsimp only at h1 h2 h3 ih ⊢
    have le := h2.lay hl
    by_cases q : j < L
    · obtain ⟨c1, c2⟩ := chn j q
      have c3 : (0 : Int32) < nI (ch S z j) := nI_lt (a := 0) c1 (by omega)
      obtain ⟨g2, e2⟩ : ∃ g2, g2 = uI e 201 36 (nI (j + 1)) := ⟨_, rfl⟩
      have f2 : Dfr (fun a k => (a = 201 ∧ k = 36) ∨ a = 224) e g2 := by rw [e2]; exact Dfr.uI (by decide) (Or.inl ⟨rfl, rfl⟩)
      have l2 := f2.lay le
      have p2 : pI 12 e 201 36 (nI (j + 1)) = some g2 := by rw [e2]; exact pI_n (kk201 le)
      have v6 : hI g2 226 (ch S z j) = nI (S.2.2.1 (ch S z j)) := by rw [f2.I (by omega), h2.I (by omega)]; exact (C4 _ c1 c2).1
      simp only [f_M_traceTo_L7, c3, if_true, gI_n (kk201 le), h3, ob_v, nI_1, p2, gR_n (kk201 l2), LR l2, rI_n (kk226 l2) (show ch S z j < 4001 by omega) (by decide), v6]
      exact ih (j + 1, g2) ⟨by dsimp only; omega, h2.trans f2, by dsimp only; rw [e2, hI_eq]⟩ (by dsimp only; omega)
    · have : j = L := by omega
      subst this
      have c0' : ¬ (0 : Int32) < nI (ch S z j) := by rw [L2]; decide
      simp only [f_M_traceTo_L7, c0', if_false, gI_n (kk201 le), h3, ob_v]
      exact second e h2 h3
  simp only [f_M_traceTo, p0, ob_v]
  exact first FU (0, g0) ⟨Nat.zero_le _, f0, by rw [e0, hI_eq]; rfl⟩ (by show L - 0 < FU; unfold FU; omega)
end WM
