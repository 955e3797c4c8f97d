/-! the class's passes -/
section FC2
variable {h g g0 : AH} {x y a b n m : Nat}
theorem f99_nx (f : Dfr (OnC 99) h g) : nx g = nx h := by funext t s k; exact f.I (by unfold OnC; omega)
theorem f99_en (f : Dfr (OnC 99) h g) : en g = en h := by funext t s; exact f.I (by unfold OnC; omega)
/-- on the way through a pass: V what has been looked at -/
def SW (h : AH) (x y n m : Nat) (g0 : AH) (fl : Bool) (g : AH) (V : Nat → Nat → Prop) : Prop := Dfr (OnC 99) h g ∧ (∀ C, Cl h x y n m C → ∀ p q, C p q = true → GR n m (GC g) p q = true) ∧ (fl = false → g = g0 ∧ ∀ p q, V p q → GR n m (GC g) p q = true → okB h x y (GR n m (GC g)) p q = true) ∧ (fl = true → crd (GR n m (GC g)) < crd (GR n m (GC g0)))
theorem SW.more {fl : Bool} {V V' : Nat → Nat → Prop} (s : SW h x y n m g0 fl g V) (hv : ∀ p q, V' p q → V p q ∨ (GR n m (GC g) p q = true → okB h x y (GR n m (GC g)) p q = true)) : SW h x y n m g0 fl g V' := by
  obtain ⟨s1, s2, s3, s4⟩ := s
  refine ⟨s1, s2, fun e => ⟨(s3 e).1, fun p q v w => ?_⟩, s4⟩
  rcases hv p q v with z | z
  · exact (s3 e).2 p q z w
  · exact z w
theorem SW.drop (hl : Lay h) (T1 : TK h x a n) (T2 : TK h y b m) {fl : Bool} {V V' : Nat → Nat → Prop} {p q : Nat} (hp : p ≤ n) (hq : q ≤ m) (s : SW h x y n m g0 fl g V) (g1 : GC g p q = true) (no : okB h x y (GC g) p q = false) : SW h x y n m g0 true (uI g 99 p (hI g 99 p &&& (((1 : Int32) <<< (nI q &&& 31)) ^^^ (-1 : Int32)))) V' := by
  have t1 := T1.1
  have t2 := T2.1
  obtain ⟨s1, s2, s3, s4⟩ := s
  have e : ∀ p' q', q' < 31 → GC (uI g 99 p (hI g 99 p &&& (((1 : Int32) <<< (nI q &&& 31)) ^^^ (-1 : Int32)))) p' q' = (GC g p' q' && !(decide (p' = p) && decide (q' = q))) := by
    intro p' q' hq'
    unfold GC
    by_cases z : p' = p
    · subst z; rw [hI_eq, hb_drop _ hq' (by omega)]; simp
    · rw [hI_ne (by omega)]; simp [z]
  obtain ⟨g2, eg⟩ : ∃ g2, g2 = uI g 99 p (hI g 99 p &&& (((1 : Int32) <<< (nI q &&& 31)) ^^^ (-1 : Int32))) := ⟨_, rfl⟩
  rw [← eg] at e ⊢
  have e' : ∀ p' q', GR n m (GC g2) p' q' = (GR n m (GC g) p' q' && !(decide (p' = p) && decide (q' = q))) := by
    intro p' q'
    unfold GR
    by_cases z : q' ≤ m
    · rw [e p' q' (by omega)]
      cases decide (p' ≤ n) <;> cases decide (q' ≤ m) <;> cases GC g p' q' <;> simp
    · simp [z]
  have gr : GR n m (GC g) p q = true := by unfold GR; simp [hp, hq, g1]
  have lt : crd (GR n m (GC g2)) < crd (GR n m (GC g)) := by
    refine crd_lt (p := p) (q := q) (by omega) (by omega) (fun p' q' z => ?_) gr ?_
    · rw [e', Bool.and_eq_true] at z; exact z.1
    · rw [e']; simp
  refine ⟨?_, fun C hC p' q' c => ?_, fun z => (nomatch z), fun _ => ?_⟩
  · rw [eg]; exact s1.trans (Dfr.uI (by decide) rfl)
  · rw [e', s2 C hC p' q' c, Bool.true_and]
    by_cases z : p' = p ∧ q' = q
    · obtain ⟨z1, z2⟩ := z
      subst z1; subst z2
      have k1 := (hC p' q' c).2.2
      have k2 := okB_mono (G := GR n m (GC g)) (fun p q w => s2 C hC p q w) k1
      rw [ok_GR T1 T2 hp hq, no] at k2
      cases k2
    · by_cases z1 : p' = p
      · have : ¬ q' = q := fun w => z ⟨z1, w⟩
        simp [this]
      · simp [z1]
  · cases fl with
    | false => rw [(s3 rfl).1] at lt; rw [← (s3 rfl).1] at lt ⊢; exact lt
    | true => have := s4 rfl; omega
theorem pass_q (hl : Lay h) (T1 : TK h x a n) (T2 : TK h y b m) (r1 : hR h 98 1 = some a) (r2 : hR h 98 2 = some b) {p : Nat} (hp : p ≤ n) {ρ : Type} {Q : ρ → Prop} (k : Int32 → AH → Option ρ) (hk : ∀ fl g, SW h x y n m g0 fl g (fun p' q' => p' < p + 1) → OK (k (bI fl) g) Q) : ∀ N (s : Nat × Bool × AH), (s.1 ≤ m + 1 ∧ SW h x y n m g0 s.2.1 s.2.2 (fun p' q' => p' < p ∨ (p' = p ∧ q' < s.1))) → m + 1 - s.1 < N → OK (f_Fi_dropsSome_L17 98 (nI p) k N (bI s.2.1) (nI s.1) s.2.2) Q := by
  have t1 := T1.1
  have t2 := T2.1
  refine loopU (fun N (s : Nat × Bool × AH) => f_Fi_dropsSome_L17 98 (nI p) k N (bI s.2.1) (nI s.1) s.2.2) _ (fun s => m + 1 - s.1) _ ?_
  intro N s ⟨h1, h2⟩ ih
  obtain ⟨q, fl, g⟩ := s
  dsimp only at h1 h2 ih ⊢
  have f := h2.1
  have lg := f.lay hl
  have ag : Ag FTalk h g := f.fr.ag (by unfold FTalk OnC; omega)
  have U1 := T1.ag hl.2.2.2.2.2.2 ag
  have U2 := T2.ag hl.2.2.2.2.2.2 ag
  have e1 : hR g 98 1 = some a := (f.R _ _).trans r1
  have e2 : hR g 98 2 = some b := (f.R _ _).trans r2
  by_cases hq : q ≤ m
  · have same : okB g x y (GC g) p q = okB h x y (GC g) p q := okB_same (f99_nx f) (f99_en f) x y (GC g) p q
    have hd : hK g 99 = (1, 25) := kk99 lg
    simp only [f_Fi_dropsSome_L17, gR_n (c := 2) (kk98 lg), e2, Option.bind_some, U2.steps, nI_nlt hq (by omega), if_false, cv_n (c := 2) (kk98 lg), holds_C lg (show p ≤ 24 by omega), now_C lg U1 U2 e1 e2 hp hq, LR lg, rI_n hd (show p < 25 by omega) (by decide), wI_n (show 4 ≤ 99 by decide) hd (show p < 25 by omega) (by decide), nI_1, bI0]
    cases c1 : GC g p q with
    | false =>
      rw [if_pos rfl]
      refine ih (q + 1, fl, g) ⟨by dsimp only; omega, h2.more (fun p' q' v => ?_)⟩ (by dsimp only; omega)
      dsimp only at v
      by_cases z : p' = p ∧ q' = q
      · right; intro w; unfold GR at w; rw [z.1, z.2, c1] at w; simp at w
      · left; omega
    | true =>
      rw [if_neg (by decide)]
      cases c2 : nowB g x y p q with
      | false =>
        rw [if_pos rfl]
        have no : okB h x y (GC g) p q = false := by rw [← same]; unfold okB; rw [c2]; rfl
        exact ih (q + 1, true, _) ⟨by dsimp only; omega, h2.drop hl T1 T2 hp hq c1 no⟩ (by dsimp only; omega)
      | true =>
        rw [if_neg (by decide), later_C lg U1 U2 e1 e2 hp hq c2, Option.bind_some]
        have ok' : okB h x y (GC g) p q = latB g x y (GC g) p q 8 := by rw [← same]; unfold okB; rw [c2]; rfl
        cases c3 : latB g x y (GC g) p q 8 with
        | false =>
          rw [if_pos (by decide)]
          exact ih (q + 1, true, _) ⟨by dsimp only; omega, h2.drop hl T1 T2 hp hq c1 (ok'.trans c3)⟩ (by dsimp only; omega)
        | true =>
          rw [if_neg (by decide)]
          refine ih (q + 1, fl, g) ⟨by dsimp only; omega, h2.more (fun p' q' v => ?_)⟩ (by dsimp only; omega)
          dsimp only at v
          by_cases z : p' = p ∧ q' = q
          · right; intro _; rw [z.1, z.2, ok_GR T1 T2 hp hq, ok', c3]
          · left; omega
  · have : q = m + 1 := by omega
    subst this
    simp only [f_Fi_dropsSome_L17, gR_n (c := 2) (kk98 lg), e2, Option.bind_some, U2.steps, nI_lt (show m < m + 1 by omega) (by omega), if_true]
    refine hk fl g (h2.more (fun p' q' v => ?_))
    by_cases z : p' < p
    · left; exact Or.inl z
    · by_cases w : q' < m + 1
      · left; exact Or.inr ⟨by omega, w⟩
      · right; intro u; unfold GR at u; simp [show ¬ q' ≤ m by omega] at u
theorem drops_C (hl : Lay h) (T1 : TK h x a n) (T2 : TK h y b m) (r1 : hR h 98 1 = some a) (r2 : hR h 98 2 = some b) (f0 : Dfr (OnC 99) h g0) (hc : ∀ C, Cl h x y n m C → ∀ p q, C p q = true → GR n m (GC g0) p q = true) : OK (f_Fi_dropsSome g0 98) (fun r => ∃ fl, r.1 = bI fl ∧ SW h x y n m g0 fl r.2 (fun _ _ => True)) := by
  have t1 := T1.1
  have main : ∀ N (s : Nat × Bool × AH), (s.1 ≤ n + 1 ∧ SW h x y n m g0 s.2.1 s.2.2 (fun p' _ => p' < s.1)) → n + 1 - s.1 < N → OK (f_Fi_dropsSome_L4 98 N (bI s.2.1) (nI s.1) s.2.2) (fun r => ∃ fl, r.1 = bI fl ∧ SW h x y n m g0 fl r.2 (fun _ _ => True)) := by
    refine loopU (fun N (s : Nat × Bool × AH) => f_Fi_dropsSome_L4 98 N (bI s.2.1) (nI s.1) s.2.2) _ (fun s => n + 1 - s.1) _ ?_
    intro N s ⟨h1, h2⟩ ih
    obtain ⟨p, fl, g⟩ := s
    dsimp only at h1 h2 ih ⊢
    have f := h2.1
    have lg := f.lay hl
    have U1 := T1.ag hl.2.2.2.2.2.2 (f.fr.ag (by unfold FTalk OnC; omega))
    have e1 : hR g 98 1 = some a := (f.R _ _).trans r1
    by_cases hp : p ≤ n
    · simp only [f_Fi_dropsSome_L4, gR_n (c := 2) (kk98 lg), e1, Option.bind_some, U1.steps, nI_nlt hp (by omega), if_false, nI_1]
      refine pass_q hl T1 T2 r1 r2 hp _ (fun fl' g' s' => ?_) FU (0, fl, g) ⟨by simp, h2.more (fun p' q' v => ?_)⟩ (by show m + 1 - 0 < FU; have := T2.1; unfold FU; omega)
      · exact ih (p + 1, fl', g') ⟨by dsimp only; omega, s'⟩ (by dsimp only; omega)
      · dsimp only at v; left; omega
    · have : p = n + 1 := by omega
      subst this
      have bb : bI fl = 0 ∨ bI fl = 1 := by cases fl <;> decide
      simp only [f_Fi_dropsSome_L4, gR_n (c := 2) (kk98 lg), e1, Option.bind_some, U1.steps, nI_lt (show n < n + 1 by omega) (by omega), if_true]
      rw [if_pos bb]
      refine OK.mk ⟨fl, rfl, h2.more (fun p' q' _ => ?_)⟩
      by_cases z : p' < n + 1
      · left; exact z
      · right; intro u; unfold GR at u; simp [show ¬ p' ≤ n by omega] at u
  refine main FU (0, false, g0) ⟨by simp, f0, hc, fun _ => ⟨rfl, fun p q v => absurd v (by simp)⟩, fun z => (nomatch z)⟩ (by show n + 1 - 0 < FU; unfold FU; omega)
theorem turns_C (hl : Lay h) (T1 : TK h x a n) (T2 : TK h y b m) (r1 : hR h 98 1 = some a) (r2 : hR h 98 2 = some b) : ∀ N (s : Nat × Bool × AH), (s.1 ≤ 626 ∧ Dfr (OnC 99) h s.2.2 ∧ (∀ C, Cl h x y n m C → ∀ p q, C p q = true → GR n m (GC s.2.2) p q = true) ∧ (s.2.1 = false → Cl h x y n m (GR n m (GC s.2.2))) ∧ (s.2.1 = true → crd (GR n m (GC s.2.2)) + s.1 ≤ 625)) → 626 - s.1 < N → OK (f_Fi_compare_L35 98 N (bI s.2.1) (nI s.1) s.2.2) (fun g => Dfr (OnC 99) h g ∧ GF h x y n m (GR n m (GC g))) := by
  refine loopU (fun N (s : Nat × Bool × AH) => f_Fi_compare_L35 98 N (bI s.2.1) (nI s.1) s.2.2) _ (fun s => 626 - s.1) _ ?_
  intro N s ⟨h1, h2, h3, h4, h5⟩ ih
  obtain ⟨i, fl, g⟩ := s
  dsimp only at h1 h2 h3 h4 h5 ih ⊢
  have lg := h2.lay hl
  cases fl with
  | false =>
    have fin : OK (some g) (fun g => Dfr (OnC 99) h g ∧ GF h x y n m (GR n m (GC g))) := OK.mk ⟨h2, h4 rfl, h3⟩
    simp only [f_Fi_compare_L35, bI, Bool.false_eq_true, if_false, if_true]
    split <;> exact fin
  | true =>
    have := h5 rfl
    have q : ¬ (625 : Int32) < nI i := nI_nlt (a := 625) (by omega) (by decide)
    obtain ⟨⟨r, g'⟩, e, fl', e1, e2, e3, e4, e5⟩ := drops_C hl T1 T2 r1 r2 h2 h3
    dsimp only at e1 e2 e3 e4 e5
    subst e1
    simp only [f_Fi_compare_L35, bI, if_true, show ¬ ((1 : Int32) = 0) by decide, if_false, q, cv_n (c := 2) (kk98 lg), e, bd2, Option.bind_some, nI_1]
    refine ih (i + 1, fl', g') ⟨by dsimp only; omega, e2, e3, fun z p q w => ?_, fun z => ?_⟩ (by dsimp only; omega)
    · have pq : p ≤ n ∧ q ≤ m := by dsimp only at w; unfold GR at w; simp at w; exact w.1
      exact ⟨pq.1, pq.2, (e4 z).2 p q trivial w⟩
    · have := e5 z; dsimp only; omega
end FC2
section FC3
variable {h g : AH} {x y a b n m : Nat}
def SFi (a k : Nat) : Prop := a = 99 ∨ (a = 98 ∧ (k = 1 ∨ k = 2))
theorem compare_C (hl : Lay h) (T1 : TK h x a n) (T2 : TK h y b m) : OK (f_Fi_compare h 98 (some a) (some b)) (fun g => Fr SFi h g ∧ Lay g ∧ GF h x y n m (GR n m (GC g))) := by
  have t1 := T1.1
  have t2 := T2.1
  obtain ⟨h2, e2⟩ : ∃ h2, h2 = uR (uR h 98 1 (some a)) 98 2 (some b) := ⟨_, rfl⟩
  have f1 : Fr SFi h (uR h 98 1 (some a)) := Fr.uR (Or.inr ⟨rfl, Or.inl rfl⟩)
  have f2 : Fr SFi h h2 := by rw [e2]; exact f1.trans (Fr.uR (Or.inr ⟨rfl, Or.inr rfl⟩))
  have nR : ∀ q ∈ rTab, ¬ SFi q.1 q.2.1 := by
    have : ∀ q ∈ rTab, ¬ (q.1 = 99 ∨ (q.1 = 98 ∧ (q.2.1 = 1 ∨ q.2.1 = 2))) := by decide +kernel
    exact this
  have n4 : ∀ a k, SFi a k → 4 ≤ a := fun a k z => by unfold SFi at z; omega
  have l1 := f1.lay hl nR n4
  have l2 := f2.lay hl nR n4
  have U1 := T1.ag hl.2.2.2.2.2.2 (f2.ag (by unfold FTalk SFi; omega))
  have U2 := T2.ag hl.2.2.2.2.2.2 (f2.ag (by unfold FTalk SFi; omega))
  have R1 : hR h2 98 1 = some a := by rw [e2]; rfl
  have R2 : hR h2 98 2 = some b := by rw [e2]; rfl
  have p1 : pR 2 h 98 1 (some a) = some (uR h 98 1 (some a)) := pR_n (c := 2) (kk98 hl)
  have p2 : pR 2 (uR h 98 1 (some a)) 98 2 (some b) = some h2 := by rw [e2]; exact pR_n (c := 2) (kk98 l1)
  obtain ⟨g1, e3, f3, v3⟩ := fillI (h := h2) 99 (((1 : Int32) <<< ((nI m + (1 : Int32)) &&& 31)) - (1 : Int32)) (by decide) (kk99 l2) (by decide)
  have full : ∀ p q, p ≤ n → q ≤ m → GC g1 p q = true := by
    intro p q hp hq
    unfold GC
    rw [v3 p (by omega)]
    have : ∀ m, m < 25 → ∀ q, q < 25 → q ≤ m → hb (((1 : Int32) <<< ((nI m + (1 : Int32)) &&& 31)) - (1 : Int32)) q = true := by decide +kernel
    exact this m (by omega) q (by omega) hq
  simp only [f_Fi_compare, p1, p2, Option.bind_some, gR_n (c := 2) (kk98 l2), LR l2, R2, U2.steps, e3]
  have nxe : nx h2 = nx h := by funext t s k; exact f2.I (by unfold SFi; omega)
  have ene : en h2 = en h := by funext t s; exact f2.I (by unfold SFi; omega)
  refine (turns_C l2 U1 U2 R1 R2 FU (0, true, g1) ⟨by simp, f3, fun C hC p q c => ?_, fun z => (nomatch z), fun _ => ?_⟩ (by show 626 - 0 < FU; unfold FU; omega)).mono (fun g ⟨fg, gf⟩ => ⟨f2.trans (fg.fr.mono (fun a k z => Or.inl z)), fg.lay l2, ?_⟩)
  · obtain ⟨c1, c2, _⟩ := hC p q c
    unfold GR
    simp [c1, c2, full p q c1 c2]
  · have := crd_le (GR n m (GC g1)); dsimp only; omega
  · have cl : ∀ C, Cl h2 x y n m C ↔ Cl h x y n m C := by
      intro C
      unfold Cl
      constructor
      · intro z p q c; obtain ⟨z1, z2, z3⟩ := z p q c; exact ⟨z1, z2, by rw [← okB_same nxe ene]; exact z3⟩
      · intro z p q c; obtain ⟨z1, z2, z3⟩ := z p q c; exact ⟨z1, z2, by rw [okB_same nxe ene]; exact z3⟩
    exact ⟨(cl _).mp gf.1, fun C hC => gf.2 C ((cl C).mpr hC)⟩
end FC3
