/-! the class's walk whole -/
def SWt (a k : Nat) : Prop := SWk a k ∨ (a = 92 ∧ k = 7) ∨ a = 97
def S00 : WSt := ((0, false), (fun _ => (0, 0, 0, 0)), (fun _ => 0), (fun _ => 0))
def S01 : WSt := rch S00 (0, 0, 0, 0) 0 0
/-- the way that is kept -/
def WayR (S : WSt) (f w : Nat) (len : Int32) (ar : Nat → Int32) : Prop := (f = 0 → len = 0) ∧ (¬ f = 0 → w < S.1.1 ∧ ∃ L, len = nI L ∧ WayA S w L ar)
theorem S01_n : S01.1.1 = 1 ∧ S01.1.2 = false ∧ S01.2.1 0 = (0, 0, 0, 0) := by
  unfold S01 rch
  have : inL S00 (0, 0, 0, 0) = false := by
    cases z : inL S00 (0, 0, 0, 0) with
    | false => rfl
    | true => obtain ⟨x, x1, _⟩ := inL_iff.mp z; exact absurd x1 (by show ¬ x < 0; omega)
  rw [this]
  refine ⟨rfl, rfl, rfl⟩
theorem wok0 : WOK S00 := ⟨Nat.zero_le _, fun x hx => absurd hx (by show ¬ x < 0; omega), fun x y hx => absurd hx (by show ¬ x < 0; omega), fun z => (nomatch z), fun x h0 hx => absurd hx (by show ¬ x < 0; omega)⟩
section TR
variable {h g : AH} {x y a b n m K : Nat} {S : WSt} {p : Pl} {t : Nat}
theorem swt_ag (f : Dfr SWt h g) : Ag FTalk h g := f.fr.ag (by unfold FTalk SWt SWk; omega)
theorem swt_nx (f : Dfr SWt h g) : nx g = nx h := by funext t s k; exact f.I (by unfold SWt SWk; omega)
theorem swt_en (f : Dfr SWt h g) : en g = en h := by funext t s; exact f.I (by unfold SWt SWk; omega)
theorem thru_C (hl : Lay h) (T1 : TK h x a n) (T2 : TK h y b m) (r1 : hR h 92 8 = some a) (r2 : hR h 92 9 = some b) (r10 : hI h 92 10 = nI K) (k2 : K ≤ 2) {ρ : Type} {Q : ρ → Prop} (k : Int32 → AH → Option ρ) {R : WSt × Nat × Nat}
    (hk : ∀ g', Dfr SWt h g' → CW g' R.1 → WIn n m R.1 → R.2.1 < 3 → WayR R.1 R.2.1 R.2.2 (hI g' 92 7) (hI g' 97) → OK (k (nI R.2.1) g') Q) :
    ∀ d t N (g : AH) (S : WSt) (f w : Nat), t + d = 4001 → d < N → Dfr SWt h g → CW g S → WIn n m S → f < 3 → WayR S f w (hI g 92 7) (hI g 97) → bfs K (sX h x) (hX h x) (sX h y) (hX h y) (en h x) (en h y) d t S f w = R → OK (f_Wa_through_L51 92 k N (nI f) (nI t) g) Q := by
  have t1 := T1.1
  have t2 := T2.1
  intro d
  induction d with
  | zero =>
    intro t N g S f w h1 h2 F C I f3 W e
    obtain ⟨N, rfl⟩ : ∃ q, N = q + 1 := ⟨N - 1, by omega⟩
    have lg := F.lay hl
    have w1 := C.1.1
    rw [bfs] at e
    subst e
    simp only [f_Wa_through_L51, gI_n (c := 10) (kk92 lg), C.2.1, ob_v, nI_nlt (show S.1.1 ≤ t by omega) (by omega), if_false]
    exact hk g F C I f3 W
  | succ d ih =>
    intro t N g S f w h1 h2 F C I f3 W e
    obtain ⟨N, rfl⟩ : ∃ q, N = q + 1 := ⟨N - 1, by omega⟩
    have lg := F.lay hl
    have w1 := C.1.1
    rw [bfs] at e
    by_cases q : t < S.1.1
    · have t4 : nI t < 4000 := nI_lt (b := 4000) (by omega) (by decide)
      cases hs : S.1.2 with
      | true =>
        rw [if_neg (by rw [hs]; simp)] at e
        subst e
        have v5 := C.2.2.1
        rw [hs] at v5
        simp only [f_Wa_through_L51, gI_n (c := 10) (kk92 lg), C.2.1, ob_v, nI_lt q (by omega), if_true, t4, v5, bI, show ¬ ((1 : Int32) = 0) by decide, if_false]
        exact hk g F C I f3 W
      | false =>
        rw [if_pos ⟨q, hs⟩] at e
        have v5 := C.2.2.1
        rw [hs] at v5
        have U1 := T1.ag hl.2.2.2.2.2.2 (swt_ag F)
        have U2 := T2.ag hl.2.2.2.2.2.2 (swt_ag F)
        have R1 : hR g 92 8 = some a := (F.R _ _).trans r1
        have R2 : hR g 92 9 = some b := (F.R _ _).trans r2
        have R10 : hI g 92 10 = nI K := by rw [F.I (by unfold SWt SWk; omega)]; exact r10
        have sx : sX g = sX h := by unfold sX; rw [swt_nx F]
        have hx : hX g = hX h := by unfold hX; rw [swt_nx F]
        have en' : en g = en h := swt_en F
        have CK : CWk g n m g S := ⟨Dfr.refl, C, I⟩
        obtain ⟨S', eS'⟩ : ∃ S', S' = stW K (sX h x) (hX h x) (sX h y) (hX h y) t (S.2.1 t) S := ⟨_, rfl⟩
        obtain ⟨v, ev⟩ : ∃ v, v = fdW K (sX h x) (hX h x) (sX h y) (hX h y) (en h x) (en h y) (S.2.1 t) := ⟨_, rfl⟩
        have v3 : v < 3 := by rw [ev]; exact fdW_lt _ _ _ _ _ _ _ _
        rw [← eS', ← ev] at e
        -- one place
        have one : OK (if nI K = (0 : Int32) then
              bd2 (f_Wa_passFrom g 92 (nI t)) fun x15 h16 => some (x15, h16)
            else
              bd2 (f_Wa_actFrom g 92 (nI t)) fun x13 h14 => some (x13, h14)) (fun q => q.1 = nI v ∧ CWk g n m q.2 S' ∧ Mor n m S S') := by
          by_cases kz : K = 0
          · subst kz
            rw [if_pos (show nI 0 = 0 from rfl)]
            obtain ⟨⟨r, g'⟩, e1, c1, c2, c3⟩ := pass_C lg U1 U2 R1 R2 CK q
            dsimp only at c1 c2 c3
            rw [sx, hx, en'] at c1
            rw [sx, hx] at c2 c3
            rw [e1, bd2_v]
            refine OK.mk ⟨?_, ?_, ?_⟩
            · rw [c1, ev]; unfold fdW; rw [if_pos rfl]
            · rw [eS']; unfold stW; rw [if_pos rfl]; exact c2
            · rw [eS']; unfold stW; rw [if_pos rfl]; exact c3
          · rw [if_neg (nI_ne0 (by omega) (by omega))]
            obtain ⟨⟨r, g'⟩, e1, c1, c2, c3⟩ := act_C lg U1 U2 R1 R2 R10 (by omega) k2 CK q
            dsimp only at c1 c2 c3
            rw [sx, hx, en'] at c1
            rw [sx, hx] at c2 c3
            rw [e1, bd2_v]
            refine OK.mk ⟨?_, ?_, ?_⟩
            · rw [c1, ev]; unfold fdW; rw [if_neg kz]
            · rw [eS']; unfold stW; rw [if_neg kz]; exact c2
            · rw [eS']; unfold stW; rw [if_neg kz]; exact c3
        have v5' : hI g 92 5 = 0 := v5
        simp only [f_Wa_through_L51, gI_n (c := 10) (kk92 lg), C.2.1, ob_v, nI_lt q (by omega), if_true, t4, v5', R10, cv_n (c := 10) (kk92 lg)]
        refine OK.bd2 (one.mono (fun r ⟨c1, c2, c3⟩ => ?_))
        obtain ⟨r, g'⟩ := r
        dsimp only at c1 c2 ⊢
        subst c1
        have F' : Dfr SWt h g' := F.trans (c2.1.mono (fun a k z => Or.inl z))
        have l' := F'.lay hl
        have w7 : hI g' 92 7 = hI g 92 7 := c2.1.I (by unfold SWk; omega)
        have w97 : ∀ i, hI g' 97 i = hI g 97 i := fun i => c2.1.I (by unfold SWk; omega)
        by_cases fz : f = 0
        · subst fz
          rw [if_pos (show nI 0 = 0 from rfl)]
          by_cases vz : v = 0
          · subst vz
            rw [if_pos (show nI 0 = 0 from rfl), nI_1]
            rw [if_pos rfl, if_neg (by simp)] at e
            refine ih (t + 1) N g' S' 0 w (by omega) (by omega) F' c2.2.1 c2.2.2 (by decide) ⟨fun _ => ?_, fun z => absurd rfl z⟩ e
            rw [w7]; exact W.1 rfl
          · rw [if_neg (nI_ne0 (by omega) (by omega))]
            rw [if_pos rfl, if_pos ⟨rfl, vz⟩] at e
            have tz : t < S'.1.1 := by have := c3.2.2.1; omega
            obtain ⟨g2, e2, f2, L, L1, L2⟩ := keepWay_C l' c2.2.1 tz
            rw [cv_n (c := 10) (kk92 l'), e2, ob_v, nI_1]
            have C2 : CW g2 S' := by
              obtain ⟨d1, d2, d3, d4, d5, d6⟩ := c2.2.1
              refine ⟨d1, by rw [f2.I (by omega)]; exact d2, by rw [f2.I (by omega)]; exact d3, fun z hz => by rw [f2.I (by omega)]; exact d4 z hz, fun z z0 hz => by rw [f2.I (by omega), f2.I (by omega)]; exact d5 z z0 hz, ?_⟩
              have : hI g2 96 = hI g' 96 := by funext s; exact f2.I (by omega)
              rw [this]; exact d6
            exact ih (t + 1) N g2 S' v t (by omega) (by omega) (F'.trans (f2.mono (fun a k z => Or.inr z))) C2 c2.2.2 v3 ⟨fun z => absurd z vz, fun _ => ⟨tz, L, L1, L2⟩⟩ e
        · rw [if_neg (nI_ne0 (by omega) (by omega)), nI_1]
          rw [if_neg fz, if_neg (fun z => fz z.1)] at e
          obtain ⟨u1, L, L1, L2⟩ := W.2 fz
          refine ih (t + 1) N g' S' f w (by omega) (by omega) F' c2.2.1 c2.2.2 f3 ⟨fun z => absurd z fz, fun _ => ⟨by have := c3.2.2.1; omega, L, by rw [w7]; exact L1, ?_⟩⟩ e
          have A := L2.more C.1 c3 u1
          exact ⟨A.1, A.2.1, A.2.2.1, fun i hi => by rw [w97]; exact A.2.2.2 i hi⟩
    · rw [if_neg (fun z => q z.1)] at e
      subst e
      simp only [f_Wa_through_L51, gI_n (c := 10) (kk92 lg), C.2.1, ob_v, nI_nlt (show S.1.1 ≤ t by omega) (by omega), if_false]
      exact hk g F C I f3 W
def SWj (a k : Nat) : Prop := SWt a k ∨ (a = 92 ∧ (k = 8 ∨ k = 9 ∨ k = 10))
theorem through_C (hl : Lay h) (T1 : TK h x a n) (T2 : TK h y b m) (k2 : K ≤ 2) {R : WSt × Nat × Nat} (hR' : bfs K (sX h x) (hX h x) (sX h y) (hX h y) (en h x) (en h y) 4001 0 S01 0 0 = R) : OK (f_Wa_through h 92 (some a) (some b) (nI K)) (fun q => q.1 = (if R.1.1.2 = true then 3 else nI R.2.1) ∧ Fr SWj h q.2 ∧ Lay q.2 ∧ WOK R.1 ∧ R.2.1 < 3 ∧ hI q.2 92 3 = nI R.1.1.1 ∧ (if R.1.1.2 = true then hI q.2 92 7 = 0 else WayR R.1 R.2.1 R.2.2 (hI q.2 92 7) (hI q.2 97))) := by
  have t1 := T1.1
  have t2 := T2.1
  obtain ⟨g1, e1⟩ : ∃ g1, g1 = uR h 92 8 (some a) := ⟨_, rfl⟩
  have f1 : Fr SWj h g1 := by rw [e1]; exact Fr.uR (by unfold SWj; omega)
  have nR : ∀ q ∈ rTab, ¬ SWj q.1 q.2.1 := by
    have : ∀ q ∈ rTab, ¬ ((((q.1 = 92 ∧ (q.2.1 = 3 ∨ q.2.1 = 5)) ∨ (93 ≤ q.1 ∧ q.1 ≤ 96)) ∨ (q.1 = 92 ∧ q.2.1 = 7) ∨ q.1 = 97) ∨ (q.1 = 92 ∧ (q.2.1 = 8 ∨ q.2.1 = 9 ∨ q.2.1 = 10))) := by decide +kernel
    exact this
  have n4 : ∀ a k, SWj a k → 4 ≤ a := fun a k z => by unfold SWj SWt SWk at z; omega
  have l1 := f1.lay hl nR n4
  obtain ⟨g2, e2⟩ : ∃ g2, g2 = uR g1 92 9 (some b) := ⟨_, rfl⟩
  have f2 : Fr SWj h g2 := by rw [e2]; exact f1.trans (Fr.uR (by unfold SWj; omega))
  have l2 := f2.lay hl nR n4
  obtain ⟨g3, e3⟩ : ∃ g3, g3 = uI g2 92 10 (nI K) := ⟨_, rfl⟩
  have f3 : Fr SWj h g3 := by rw [e3]; exact f2.trans (Fr.uI (by unfold SWj; omega))
  have l3 := f3.lay hl nR n4
  obtain ⟨g4, e4⟩ : ∃ g4, g4 = uI g3 92 3 0 := ⟨_, rfl⟩
  have f4 : Fr SWj h g4 := by rw [e4]; exact f3.trans (Fr.uI (by unfold SWj SWt SWk; omega))
  have l4 := f4.lay hl nR n4
  obtain ⟨g5, e5⟩ : ∃ g5, g5 = uI g4 92 7 0 := ⟨_, rfl⟩
  have f5 : Fr SWj h g5 := by rw [e5]; exact f4.trans (Fr.uI (by unfold SWj SWt SWk; omega))
  have l5 := f5.lay hl nR n4
  obtain ⟨g6, e6⟩ : ∃ g6, g6 = uI g5 92 5 0 := ⟨_, rfl⟩
  have f6 : Fr SWj h g6 := by rw [e6]; exact f5.trans (Fr.uI (by unfold SWj SWt SWk; omega))
  have l6 := f6.lay hl nR n4
  have p1 : pR 10 h 92 8 (some a) = some g1 := by rw [e1]; exact pR_n (c := 10) (kk92 hl)
  have p2 : pR 10 g1 92 9 (some b) = some g2 := by rw [e2]; exact pR_n (c := 10) (kk92 l1)
  have p3 : pI 10 g2 92 10 (nI K) = some g3 := by rw [e3]; exact pI_n (c := 10) (kk92 l2)
  have p4 : pI 10 g3 92 3 0 = some g4 := by rw [e4]; exact pI_n (c := 10) (kk92 l3)
  have p5 : pI 10 g4 92 7 0 = some g5 := by rw [e5]; exact pI_n (c := 10) (kk92 l4)
  have p6 : pZ 10 g5 92 5 0 = some g6 := by rw [e6]; exact pZ_n (c := 10) (kk92 l5) (Or.inl rfl)
  obtain ⟨g7, e7, f7, v7⟩ := fillI (h := g6) 96 0 (by decide) (kk96 l6) (by decide)
  have f7' : Fr SWj h g7 := f6.trans (f7.fr.mono (fun a k z => by unfold SWj SWt SWk; omega))
  have l7 := f7.lay l6
  have C7 : CW g7 S00 := by
    refine ⟨wok0, ?_, ?_, fun x hx => absurd hx (by show ¬ x < 0; omega), fun x h0 hx => absurd hx (by show ¬ x < 0; omega), HT.nil (fun s hs => v7 s hs)⟩
    · rw [f7.I (by omega), e6, hI_ne (by omega), e5, hI_ne (by omega), e4, hI_eq]; rfl
    · rw [f7.I (by omega), e6, hI_eq]; rfl
  obtain ⟨g8, e8, f8, c8⟩ := reach_C l7 C7 (p := (0, 0, 0, 0)) (par := 0) (act := 0) (pi := -1) (ai := -1) ⟨by decide, by decide, by decide, by decide⟩ (fun z => absurd z (by show ¬ 0 < 0; decide))
  have e8' : f_Wa_reach g7 92 (0 : Int32) (-1 : Int32) (-1 : Int32) = some g8 := by rw [show (0 : Int32) = nI (cC (0, 0, 0, 0)) from by rw [cC0]; rfl]; exact e8
  have l8 := f8.lay l7
  have fr8 : Fr SWj h g8 := f7'.trans (f8.fr.mono (fun a k z => Or.inl (Or.inl z)))
  have ag8 : Ag FTalk h g8 := fr8.ag (by unfold FTalk SWj SWt SWk; omega)
  have U1 := T1.ag hl.2.2.2.2.2.2 ag8
  have U2 := T2.ag hl.2.2.2.2.2.2 ag8
  have R1 : hR g8 92 8 = some a := by rw [f8.R, f7.R, e6]; show hR g5 92 8 = some a; rw [e5]; show hR g4 92 8 = some a; rw [e4]; show hR g3 92 8 = some a; rw [e3]; show hR g2 92 8 = some a; rw [e2, e1]; rfl
  have R2 : hR g8 92 9 = some b := by rw [f8.R, f7.R, e6]; show hR g5 92 9 = some b; rw [e5]; show hR g4 92 9 = some b; rw [e4]; show hR g3 92 9 = some b; rw [e3]; show hR g2 92 9 = some b; rw [e2]; rfl
  have R10 : hI g8 92 10 = nI K := by rw [f8.I (by unfold SWk; omega), f7.I (by omega), e6, hI_ne (by omega), e5, hI_ne (by omega), e4, hI_ne (by omega), e3, hI_eq]
  have nxe : nx g8 = nx h := by funext t s k; exact fr8.I (by unfold SWj SWt SWk; omega)
  have ene : en g8 = en h := by funext t s; exact fr8.I (by unfold SWj SWt SWk; omega)
  have sx : sX h = sX g8 := by unfold sX; rw [nxe]
  have hx : hX h = hX g8 := by unfold hX; rw [nxe]
  rw [sx, hx, ← ene] at hR'
  have W8 : hI g8 92 7 = 0 := by rw [f8.I (by unfold SWk; omega), f7.I (by omega), e6, hI_ne (by omega), e5, hI_eq]
  obtain ⟨sn, ss, sp⟩ := S01_n
  have in8 : WIn n m S01 := by
    intro z hz
    rw [sn] at hz
    have : z = 0 := by omega
    subst this
    rw [sp]
    exact ⟨Nat.zero_le _, Nat.zero_le _, Nat.zero_le _, Nat.zero_le _⟩
  simp only [f_Wa_through, p1, p2, p3, p4, p5, p6, ob_v, gR_n (c := 10) (kk92 l6), LR l6, e7, cv_n (c := 10) (kk92 l7), e8']
  refine thru_C l8 U1 U2 R1 R2 R10 k2 _ (fun g' F' C' I' f3' W' => ?_) 4001 0 FU g8 S01 0 0 rfl (by unfold FU; omega) Dfr.refl c8 in8 (by decide) ⟨fun _ => W8, fun z => absurd rfl z⟩ hR'
  have l' := F'.lay l8
  have fr' : Fr SWj h g' := fr8.trans (F'.fr.mono (fun a k z => Or.inl z))
  simp only [gI_n (c := 10) (kk92 l'), C'.2.2.1, ob_v]
  cases hs : R.1.1.2 with
  | false =>
    rw [if_pos (show bI false = 0 from rfl)]
    exact OK.mk ⟨by rw [if_neg (by decide)], fr', l', C'.1, f3', C'.2.1, by rw [if_neg (by decide)]; exact W'⟩
  | true =>
    rw [if_neg (by decide)]
    obtain ⟨g9, e9⟩ : ∃ g9, g9 = uI g' 92 7 0 := ⟨_, rfl⟩
    have p9 : pI 10 g' 92 7 0 = some g9 := by rw [e9]; exact pI_n (c := 10) (kk92 l')
    have f9 : Fr SWj h g9 := by rw [e9]; exact fr'.trans (Fr.uI (by unfold SWj SWt SWk; omega))
    rw [p9, ob_v]
    refine OK.mk ⟨by rw [if_pos rfl], f9, f9.lay hl nR n4, C'.1, f3', ?_, ?_⟩
    · rw [e9, hI_ne (by omega)]; exact C'.2.1
    · rw [if_pos rfl, e9, hI_eq]
end TR
