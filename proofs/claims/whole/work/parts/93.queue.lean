/-! THE REFERENCE'S WALK BY QUEUES -/
theorem cfq {n m : Nat} (hn : n ≤ 24) (hm : m ≤ 24) : CF cM (plIn n m) := by
  refine ⟨fun p q hp hq e => ?_, fun p hp => ?_⟩
  · obtain ⟨a1, a2, a3, a4⟩ := hp
    obtain ⟨b1, b2, b3, b4⟩ := hq
    exact cM_inj ⟨by omega, by omega, a3, a4⟩ ⟨by omega, by omega, b3, b4⟩ e
  · obtain ⟨a1, a2, a3, a4⟩ := hp
    exact ⟨cM_lt ⟨by omega, by omega, a3, a4⟩, by omega, by omega, a3, a4⟩
def MWq (h : AH) (n m : Nat) (g : AH) (S : WSt) : Prop := Dfr SMw h g ∧ MK cM (plIn n m) g S ∧ hI g 201 48 = bI S.1.2
section QM
variable {h g : AH} {x y a b n m K : Nat} {S : WSt} {p : Pl} {t : Nat}
theorem rch_sp (w : WOK S) (sp : S.1.2 = true) (q : Pl) (t act : Nat) : rch S q t act = S := by
  unfold rch
  by_cases z : inL S q = true
  · rw [if_pos z]
  · have := w.2.2.2.1 sp
    rw [if_neg z, if_neg (by omega), ← sp]
theorem come_M (hl : Lay h) (hn : n ≤ 24) (hm : m ≤ 24) (C : MWq h n m g S) {q : Pl} (hq : plIn n m q) {act : Nat} (ht : t < S.1.1) (ha : act < 18) : ∃ g', f_M_come g 201 (nI (cM q)) (nI t) (nI act) = some g' ∧ MWq h n m g' (rch S q t act) ∧ hI g' 201 46 = 1 ∧ hI g' 201 47 = hI g 201 47 ∧ S.1.1 ≤ (rch S q t act).1.1 ∧ ∀ z, z < S.1.1 → (rch S q t act).2.1 z = S.2.1 z := by
  have lg := C.1.lay hl
  obtain ⟨g1, e1⟩ : ∃ g1, g1 = uI g 201 46 1 := ⟨_, rfl⟩
  have p1 : pZ 12 g 201 46 1 = some g1 := by rw [e1]; exact pZ_n (kk201 lg) (Or.inr rfl)
  have f1 : Dfr SMw g g1 := by rw [e1]; exact Dfr.uI (by decide) (by unfold SMw; omega)
  have K1 : MK cM (plIn n m) g1 S := C.2.1.fr (fun a k z => by rw [e1, hI_ne (by omega)])
  have l1 := (C.1.trans f1).lay hl
  have v48 : hI g1 201 48 = bI S.1.2 := by rw [e1, hI_ne (by omega)]; exact C.2.2
  have v47 : hI g1 201 47 = hI g 201 47 := by rw [e1, hI_ne (by omega)]
  have v46 : hI g1 201 46 = 1 := by rw [e1, hI_eq]
  cases sp : S.1.2 with
  | true =>
    rw [sp] at v48
    obtain ⟨g2, e2⟩ : ∃ g2, g2 = uI g1 201 48 1 := ⟨_, rfl⟩
    have p2 : pZ 12 g1 201 48 1 = some g2 := by rw [e2]; exact pZ_n (kk201 l1) (Or.inr rfl)
    have f2 : Dfr SMw g1 g2 := by rw [e2]; exact Dfr.uI (by decide) (by unfold SMw; omega)
    have er := rch_sp C.2.1.1 sp q t act
    refine ⟨g2, ?_, ?_, ?_, ?_, rch_n, fun z hz => (rch_P hz).1⟩
    · simp only [f_M_come, p1, ob_v, gI_n (kk201 l1), v48]
      rw [if_neg (show ¬ bI true = 0 by decide), bd2_v, p2, ob_v]
    · rw [er]
      refine ⟨(C.1.trans f1).trans f2, K1.fr (fun a k z => by rw [e2, hI_ne (by omega)]), ?_⟩
      rw [e2, hI_eq, sp]; rfl
    · rw [e2, hI_ne (by omega)]; exact v46
    · rw [e2, hI_ne (by omega)]; exact v47
  | false =>
    rw [sp] at v48
    obtain ⟨⟨r, g2⟩, e2, r2, f2, K2⟩ := isNew_M l1 (cfq hn hm) K1 (p := q) (par := t) (act := act) (pi := nI t) (ai := nI act) hq (fun _ => ⟨⟨ht, ha⟩, rfl, rfl⟩)
    dsimp only at r2 f2 K2
    subst r2
    have f2' : Dfr SMw g1 g2 := f2.mono (fun a k z => Or.inl z)
    have l2 := f2.lay l1
    have rs : (rch S q t act).1.2 = !(inL S q || decide (S.1.1 < 4000)) := by
      unfold rch
      by_cases z : inL S q = true
      · rw [if_pos z, z, sp]; rfl
      · have z' : inL S q = false := by simpa using z
        rw [if_neg z, z']
        by_cases w : S.1.1 < 4000
        · rw [if_pos w, decide_eq_true w]; exact sp
        · rw [if_neg w, decide_eq_false w]; rfl
    have br : bI (!(inL S q || decide (S.1.1 < 4000))) = 0 ∨ bI (!(inL S q || decide (S.1.1 < 4000))) = 1 := bI01 _
    obtain ⟨g3, e3⟩ : ∃ g3, g3 = uI g2 201 48 (bI (!(inL S q || decide (S.1.1 < 4000)))) := ⟨_, rfl⟩
    have p3 : pZ 12 g2 201 48 (bI (!(inL S q || decide (S.1.1 < 4000)))) = some g3 := by rw [e3]; exact pZ_n (kk201 l2) br
    have f3 : Dfr SMw g2 g3 := by rw [e3]; exact Dfr.uI (by decide) (by unfold SMw; omega)
    refine ⟨g3, ?_, ⟨((C.1.trans f1).trans f2').trans f3, K2.fr (fun a k z => by rw [e3, hI_ne (by omega)]), ?_⟩, ?_, ?_, rch_n, fun z hz => (rch_P hz).1⟩
    · simp only [f_M_come, p1, ob_v, gI_n (kk201 l1), v48, cv_n (kk201 l1), e2, bd2_v]
      rw [if_pos (show bI false = 0 from rfl)]
      cases z : (inL S q || decide (S.1.1 < 4000)) with
      | true =>
        rw [z] at p3
        rw [if_neg (show ¬ bI true = 0 by decide), bd2_v]
        have p3' : pZ 12 g2 201 48 0 = some g3 := p3
        rw [p3', ob_v]
      | false =>
        rw [z] at p3
        rw [if_pos (show bI false = 0 from rfl), bd2_v]
        have p3' : pZ 12 g2 201 48 1 = some g3 := p3
        rw [p3', ob_v]
    · rw [e3, hI_eq, rs]
    · rw [e3, hI_ne (by omega), f2.I (by unfold SMk; omega)]; exact v46
    · rw [e3, hI_ne (by omega), f2.I (by unfold SMk; omega)]; exact v47
theorem code_M (h : AH) (q : Pl) : f_M_code h (nI q.1) (nI q.2.1) (nI q.2.2.1) (nI q.2.2.2) = some (nI (cM q)) := by
  unfold f_M_code cM
  rw [show (25 : Int32) = nI 25 from rfl, show (73 : Int32) = nI 73 from rfl, pk_mul, nI_add, pk_mul, nI_add, pk_mul, nI_add]
theorem size_M (h : AH) {u : Nat} (hu : u ≤ 72) : f_M_sizeOf h (nI u) = some (nI (szQ u)) := by
  unfold f_M_sizeOf szQ
  by_cases z : u = 0
  · subst z; rfl
  · rw [if_neg (nI_ne0 (by omega) (by omega)), if_neg z]
    by_cases w : u < 9
    · rw [if_pos (show nI u < 9 from nI_lt (b := 9) w (by decide)), if_pos w]; rfl
    · rw [if_neg (show ¬ nI u < 9 from nI_nlt (b := 9) (by omega) (by omega)), if_neg w]; rfl
theorem bhd_M (h : AH) {u k : Nat} (hu : u ≤ 72) : f_M_behind h (nI u) (nI k) = some (nI (bhd u k)) := by
  unfold f_M_behind bhd
  by_cases z : u = 0
  · subst z; rw [if_pos (show nI 0 = 0 from rfl), if_pos rfl, nI_1]
  · rw [if_neg (nI_ne0 (by omega) (by omega)), if_neg z, nI_sub1 (by omega), show (8 : Int32) = nI 8 from rfl, show (9 : Int32) = nI 9 from rfl, pk_mul, nI_add, nI_add]
theorem frt_M (h : AH) {u : Nat} (h0 : 0 < u) (hu : u ≤ 72) : f_M_front h (nI u) = some (nI (frt u)) ∧ f_M_rest h (nI u) = some (nI (rst u)) := by
  unfold f_M_front f_M_rest frt rst
  by_cases w : u < 9
  · rw [if_pos (show nI u < 9 from nI_lt (b := 9) w (by decide)), if_pos w, if_pos (show nI u < 9 from nI_lt (b := 9) w (by decide)), if_pos w, nI_sub1 h0]
    exact ⟨rfl, rfl⟩
  · rw [if_neg (show ¬ nI u < 9 from nI_nlt (b := 9) (by omega) (by omega)), if_neg w, if_neg (show ¬ nI u < 9 from nI_nlt (b := 9) (by omega) (by omega)), if_neg w, show (9 : Int32) = nI 9 from rfl, pk_sub (show 9 ≤ u by omega), show (8 : Int32) = nI 8 from rfl, pk_rem (show u - 9 < 2 ^ 31 by omega) (by decide) (by decide), pk_div (show u - 9 < 2 ^ 31 by omega) (by decide) (by decide), nI_1]
    exact ⟨rfl, rfl⟩
/-- what a reference heap shows behind some acts: B whether there was one -/
def AR (h : AH) (n m : Nat) (S0 : WSt) (w47 : Int32) (g : AH) (S : WSt) (B : Bool) : Prop := MWq h n m g S ∧ hI g 201 46 = bI B ∧ hI g 201 47 = w47 ∧ S0.1.1 ≤ S.1.1 ∧ ∀ z, z < S0.1.1 → S.2.1 z = S0.2.1 z
theorem AR.come (hl : Lay h) (hn : n ≤ 24) (hm : m ≤ 24) {S0 : WSt} {w47 : Int32} {B : Bool} (A : AR h n m S0 w47 g S B) {q : Pl} (hq : plIn n m q) {act : Nat} (ht : t < S0.1.1) (ha : act < 18) : ∃ g', f_M_come g 201 (nI (cM q)) (nI t) (nI act) = some g' ∧ AR h n m S0 w47 g' (rch S q t act) true := by
  obtain ⟨g', e, c, c46, c47, le, sm⟩ := come_M hl hn hm A.1 hq (t := t) (by have := A.2.2.2.1; omega) ha
  exact ⟨g', e, c, c46, by rw [c47]; exact A.2.2.1, Nat.le_trans A.2.2.2.1 le, fun z hz => by rw [sm z (by have := A.2.2.2.1; omega)]; exact A.2.2.2.2 z hz⟩
theorem actA_M (hl : Lay h) (k2 : K ≤ 2) (T1 : TK h x a n) (T2 : TK h y b m) (hx : x < 6) (hp : plIn n m p) {ρ : Type} {Q : ρ → Prop} (k : AH → Option ρ) (y2 : Int32) {S0 : WSt} {w47 : Int32} (ht : t < S0.1.1)
    (hk : ∀ g', AR h n m S0 w47 g' (exA K (sX h x) t p 8 S0) (anyS (sX h x) p.1 8 && decide (szQ p.2.2.1 < K)) → OK (k g') Q) (A : AR h n m S0 w47 g S0 false) :
    OK (f_M_actFrom_L63 201 (nI x) y2 (nI K) (nI t) (nI p.2.2.2) (nI p.2.2.1) (nI p.2.1) (nI p.1) k FU 0 g) Q := by
  have t1 := T1.1
  have t2 := T2.1
  have M := mch_T T1 T2
  obtain ⟨E, eE⟩ : ∃ E, E = exA K (sX h x) t p 8 S0 := ⟨_, rfl⟩
  rw [← eE] at hk
  have main : ∀ d i N (g : AH) (S : WSt), i + d = 8 → d < N → AR h n m S0 w47 g S (anyS (sX h x) p.1 i && decide (szQ p.2.2.1 < K)) → exA K (sX h x) t p d S = E → OK (f_M_actFrom_L63 201 (nI x) y2 (nI K) (nI t) (nI p.2.2.2) (nI p.2.2.1) (nI p.2.1) (nI p.1) k N (nI i) g) Q := by
    intro d
    induction d with
    | zero =>
      intro i N g S h1 h2 A e
      obtain ⟨N, rfl⟩ : ∃ q, N = q + 1 := ⟨N - 1, by omega⟩
      have : i = 8 := by omega
      subst this
      rw [exA] at e
      simp only [f_M_actFrom_L63, show ¬ nI 8 < 8 by decide, if_false]
      exact hk g (by rw [← e]; exact A)
    | succ d ih =>
      intro i N g S h1 h2 A e
      obtain ⟨N, rfl⟩ : ∃ q, N = q + 1 := ⟨N - 1, by omega⟩
      have hi : i < 8 := by omega
      have qi : nI i < 8 := nI_lt (b := 8) hi (by decide)
      have i7 : 7 - d = i := by omega
      rw [exA, i7] at e
      have lg := A.1.1.lay hl
      have pl : f_M_place g (nI x) (nI p.1) (1 : Int32) (nI i) = some (nI (400 * x + 16 * p.1 + (8 + i))) := by
        have := place_M g x p.1 1 i; rw [show 8 * 1 + i = 8 + i by omega] at this; exact this
      have nx' := next_M lg hx (show p.1 ≤ 24 by have := hp.1; omega) (show 8 + i < 16 by omega)
      rw [smw_nx A.1.1, show nx h x p.1 (8 + i) = sX h x p.1 i from rfl] at nx'
      unfold sa1 at e
      have sz2 : szQ p.2.2.1 < 2 ^ 20 := by unfold szQ; split <;> (try split) <;> omega
      simp only [f_M_actFrom_L63, qi, if_true, gR_n (kk201 lg), LR lg, ob_v, pl, nx', size_M g hp.2.2.1, nI_1]
      have stay : ¬ (¬ sX h x p.1 i = -1 ∧ szQ p.2.2.1 < K) → OK (f_M_actFrom_L63 201 (nI x) y2 (nI K) (nI t) (nI p.2.2.2) (nI p.2.2.1) (nI p.2.1) (nI p.1) k N (nI (i + 1)) g) Q := by
        intro q
        rw [if_neg q] at e
        refine ih (i + 1) N g S (by omega) (by omega) ?_ e
        have : (anyS (sX h x) p.1 (i + 1) && decide (szQ p.2.2.1 < K)) = (anyS (sX h x) p.1 i && decide (szQ p.2.2.1 < K)) := by
          rw [anyS]
          by_cases z : szQ p.2.2.1 < K
          · have : sX h x p.1 i = -1 := Classical.byContradiction (fun w => q ⟨w, z⟩)
            simp [this]
          · simp [z]
        rw [this]; exact A
      by_cases q1 : sX h x p.1 i = -1
      · rw [if_pos q1]; exact stay (fun w => w.1 q1)
      · rw [if_neg q1]
        by_cases q2 : szQ p.2.2.1 < K
        · rw [if_pos (nI_lt q2 (by omega)), bhd_M g hp.2.2.1, ob_v]
          rw [if_pos ⟨q1, q2⟩] at e
          obtain ⟨j1, e1⟩ := (mc_A M hp.1 hi t1).1 q1
          obtain ⟨b72, u9⟩ := bhd_le hi k2 q2
          have cd := code_M g (tN (sX h x p.1 i), p.2.1, bhd p.2.2.1 i, p.2.2.2)
          dsimp only at cd
          rw [← e1] at cd
          obtain ⟨g', e2, A'⟩ := A.come hl t1 t2 (q := (tN (sX h x p.1 i), p.2.1, bhd p.2.2.1 i, p.2.2.2)) ⟨j1, hp.2.1, b72, hp.2.2.2⟩ (act := i) ht (by omega)
          rw [cd, ob_v, cv_n (kk201 lg), e2, ob_v]
          refine ih (i + 1) N g' _ (by omega) (by omega) ?_ e
          have : (anyS (sX h x) p.1 (i + 1) && decide (szQ p.2.2.1 < K)) = true := by rw [anyS, decide_eq_true q1, Bool.or_true, decide_eq_true q2]; rfl
          rw [this]; exact A'
        · rw [if_neg (nI_nlt (by omega) (by omega))]; exact stay (fun w => q2 w.2)
  exact main 8 0 FU g S0 rfl (by unfold FU; omega) A eE.symm
theorem actB_M (hl : Lay h) (k2 : K ≤ 2) (T1 : TK h x a n) (T2 : TK h y b m) (hy : y < 6) (hp : plIn n m p) {ρ : Type} {Q : ρ → Prop} (k : AH → Option ρ) (y1 : Int32) {S0 S1 : WSt} {B : Bool} {w47 : Int32} (ht : t < S0.1.1)
    (hk : ∀ g', AR h n m S0 w47 g' (exB K (sX h y) t p 8 S1) (B || (anyS (sX h y) p.2.1 8 && decide (szQ p.2.2.2 < K))) → OK (k g') Q) (A : AR h n m S0 w47 g S1 B) :
    OK (f_M_actFrom_L134 201 y1 (nI y) (nI K) (nI t) (nI p.2.2.2) (nI p.2.2.1) (nI p.2.1) (nI p.1) k FU 0 g) Q := by
  have t1 := T1.1
  have t2 := T2.1
  have M := mch_T T1 T2
  obtain ⟨E, eE⟩ : ∃ E, E = exB K (sX h y) t p 8 S1 := ⟨_, rfl⟩
  rw [← eE] at hk
  have main : ∀ d i N (g : AH) (S : WSt), i + d = 8 → d < N → AR h n m S0 w47 g S (B || (anyS (sX h y) p.2.1 i && decide (szQ p.2.2.2 < K))) → exB K (sX h y) t p d S = E → OK (f_M_actFrom_L134 201 y1 (nI y) (nI K) (nI t) (nI p.2.2.2) (nI p.2.2.1) (nI p.2.1) (nI p.1) k N (nI i) g) Q := by
    intro d
    induction d with
    | zero =>
      intro i N g S h1 h2 A e
      obtain ⟨N, rfl⟩ : ∃ q, N = q + 1 := ⟨N - 1, by omega⟩
      have : i = 8 := by omega
      subst this
      rw [exB] at e
      simp only [f_M_actFrom_L134, show ¬ nI 8 < 8 by decide, if_false]
      exact hk g (by rw [← e]; exact A)
    | succ d ih =>
      intro i N g S h1 h2 A e
      obtain ⟨N, rfl⟩ : ∃ q, N = q + 1 := ⟨N - 1, by omega⟩
      have hi : i < 8 := by omega
      have qi : nI i < 8 := nI_lt (b := 8) hi (by decide)
      have i7 : 7 - d = i := by omega
      rw [exB, i7] at e
      have lg := A.1.1.lay hl
      have pl : f_M_place g (nI y) (nI p.2.1) (1 : Int32) (nI i) = some (nI (400 * y + 16 * p.2.1 + (8 + i))) := by
        have := place_M g y p.2.1 1 i; rw [show 8 * 1 + i = 8 + i by omega] at this; exact this
      have nx' := next_M lg hy (show p.2.1 ≤ 24 by have := hp.2.1; omega) (show 8 + i < 16 by omega)
      rw [smw_nx A.1.1, show nx h y p.2.1 (8 + i) = sX h y p.2.1 i from rfl] at nx'
      unfold sb1 at e
      have sz2 : szQ p.2.2.2 < 2 ^ 20 := by unfold szQ; split <;> (try split) <;> omega
      simp only [f_M_actFrom_L134, qi, if_true, gR_n (kk201 lg), LR lg, ob_v, pl, nx', size_M g hp.2.2.2, nI_1]
      have stay : ¬ (¬ sX h y p.2.1 i = -1 ∧ szQ p.2.2.2 < K) → OK (f_M_actFrom_L134 201 y1 (nI y) (nI K) (nI t) (nI p.2.2.2) (nI p.2.2.1) (nI p.2.1) (nI p.1) k N (nI (i + 1)) g) Q := by
        intro q
        rw [if_neg q] at e
        refine ih (i + 1) N g S (by omega) (by omega) ?_ e
        have : (anyS (sX h y) p.2.1 (i + 1) && decide (szQ p.2.2.2 < K)) = (anyS (sX h y) p.2.1 i && decide (szQ p.2.2.2 < K)) := by
          rw [anyS]
          by_cases z : szQ p.2.2.2 < K
          · have : sX h y p.2.1 i = -1 := Classical.byContradiction (fun w => q ⟨w, z⟩)
            simp [this]
          · simp [z]
        rw [this]; exact A
      by_cases q1 : sX h y p.2.1 i = -1
      · rw [if_pos q1]; exact stay (fun w => w.1 q1)
      · rw [if_neg q1]
        by_cases q2 : szQ p.2.2.2 < K
        · rw [if_pos (nI_lt q2 (by omega)), bhd_M g hp.2.2.2, ob_v]
          rw [if_pos ⟨q1, q2⟩] at e
          obtain ⟨j1, e1⟩ := (mc_B M hp.2.1 hi t2).1 q1
          obtain ⟨b72, u9⟩ := bhd_le hi k2 q2
          have cd := code_M g (p.1, tN (sX h y p.2.1 i), p.2.2.1, bhd p.2.2.2 i)
          dsimp only at cd
          rw [← e1] at cd
          obtain ⟨g', e2, A'⟩ := A.come hl t1 t2 (q := (p.1, tN (sX h y p.2.1 i), p.2.2.1, bhd p.2.2.2 i)) ⟨hp.1, j1, hp.2.2.1, b72⟩ (act := 8 + i) ht (by omega)
          have a8 : (8 : Int32) + nI i = nI (8 + i) := by rw [show (8 : Int32) = nI 8 from rfl, nI_add]
          rw [cd, ob_v, cv_n (kk201 lg), a8, e2, ob_v]
          refine ih (i + 1) N g' _ (by omega) (by omega) ?_ e
          have : (B || (anyS (sX h y) p.2.1 (i + 1) && decide (szQ p.2.2.2 < K))) = true := by rw [anyS, decide_eq_true q1, Bool.or_true, decide_eq_true q2]; simp
          rw [this]; exact A'
        · rw [if_neg (nI_nlt (by omega) (by omega))]; exact stay (fun w => q2 w.2)
  exact main 8 0 FU g S1 rfl (by unfold FU; omega) (by rw [show (B || (anyS (sX h y) p.2.1 0 && decide (szQ p.2.2.2 < K))) = B by simp [anyS]]; exact A) eE.symm
end QM
