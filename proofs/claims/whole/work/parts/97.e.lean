/-! the class finds all adapters -/
def SAd (a k : Nat) : Prop := SAg a k ∨ (a = 100 ∧ k = 1) ∨ a = 101 ∨ a = 103 ∨ a = 104
def FD (g : AH) (w : Nat) (L : List Nat) : Prop := hI g 100 1 = nI L.length ∧ ∀ i, i < L.length → hI g 101 i = nI (pkd (dg w (L.getD i 0)) w)
def AdS (h g : AH) (x y a b n m w : Nat) (ms : Nat → Nat) (K v : Nat) : Prop := Dfr SAd h g ∧ AdF g x y a b n m w ms (dg K v) K ∧ (∀ z, z < 8 → hI g 104 z = oO ms (dg K v) K z) ∧ Inj (dg K v) K
def GdC (h : AH) (x y w : Nat) (ms : Nat → Nat) (G : Nat → Bool) : Prop := ∀ c, c < 8 ^ w → (G c = true ↔ (Inj (dg w c) w ∧ Gd (sOd (sX h x) ms (dg w c) w) (sOd (hX h x) ms (dg w c) w) (sX h y) (hX h y) (en h x) (en h y)))
section AE
variable {h g : AH} {x y a b n m w : Nat} {ms : Nat → Nat} {K v : Nat} {G : Nat → Bool}
theorem sad_nx (f : Dfr SAd h g) : nx g = nx h := by funext t s k; exact f.I (by unfold SAd SAg; omega)
theorem sad_en (f : Dfr SAd h g) : en g = en h := by funext t s; exact f.I (by unfold SAd SAg; omega)
theorem sad_m (f : Dfr SAd h g) : sX g = sX h ∧ hX g = hX h := by
  have := sad_nx f
  exact ⟨by funext t; unfold sX; rw [this], by funext t; unfold hX; rw [this]⟩
theorem used_ms (T1 : TK h x a n) (M : MsOK (usg h x n 0 ||| usg h x n 1) w ms) : ∀ i, i ≤ n → ∀ k, k < 8 → (¬ sX h x i k = -1 ∨ ¬ hX h x i k = -1) → ∃ q, q < w ∧ ms q = k := by
  intro i hi k hk q
  have b : (usg h x n 0 ||| usg h x n 1).testBit k = true := by
    rw [Nat.testBit_or, Bool.or_eq_true]
    unfold usg
    rw [orU_bit, orU_bit, List.any_eq_true, List.any_eq_true]
    rcases q with q | q
    · refine Or.inr ⟨i, List.mem_range.mpr (by omega), ?_⟩
      rw [if_neg (by decide), sys_bit h x i hk]
      exact decide_eq_true q
    · refine Or.inl ⟨i, List.mem_range.mpr (by omega), ?_⟩
      rw [if_pos rfl, hrs_bit h x i hk]
      exact decide_eq_true q
  exact ⟨_, M.rk hk b⟩
theorem sh4 : ∀ k, k < 5 → ((nI (4 * k) &&& 31).toBitVec.smod 32).toNat = 4 * k := by decide
theorem keepF_C (lg : Lay g) (F : AdF g x y a b n m w ms (dg w v) w) {L : List Nat} (D : FD g w L) (hL : L.length < 6720) : OK (f_Ad_keepFound g 100) (fun g' => Dfr (fun a k => (a = 100 ∧ k = 1) ∨ a = 101) g g' ∧ FD g' w (L ++ [v])) := by
  obtain ⟨⟨G1, G2, G3, G4⟩, G5, G6, G7, G8, G9⟩ := id F
  have d8 : ∀ k, dg w v k < 8 := fun k => dg_lt w v k
  have loop : ∀ {ρ : Type} (kk : Int32 → Option ρ), ∀ e k N, k + e = w → e < N → f_Ad_keepFound_L4 g 100 kk N (nI (pkd (dg w v) k)) (nI k) = kk (nI (pkd (dg w v) w)) := by
    intro ρ kk e
    induction e with
    | zero =>
      intro k N h1 h2
      obtain ⟨N, rfl⟩ : ∃ q, N = q + 1 := ⟨N - 1, by omega⟩
      have : k = w := by omega
      subst this
      rw [f_Ad_keepFound_L4, gI_n (c := 1) (kk100 lg), ob_v, G5, if_neg (nI_nlt (Nat.le_refl k) (by omega))]
    | succ e ih =>
      intro k N h1 h2
      obtain ⟨N, rfl⟩ : ∃ q, N = q + 1 := ⟨N - 1, by omega⟩
      obtain ⟨u1, u2, u3⟩ := G8 k (by omega)
      rw [if_pos (show k < w by omega)] at u3
      have pl := pkd_lt d8 k
      have dk := d8 k
      have p16 : 16 ^ k = 2 ^ (4 * k) := by rw [Nat.pow_mul]
      have p20 : 2 ^ (4 * k) ≤ 2 ^ 16 := Nat.pow_le_pow_right (by decide) (by omega)
      have or' : pkd (dg w v) k ||| dg w v k * 2 ^ (4 * k) = pkd (dg w v) (k + 1) := by
        have := Nat.two_pow_add_eq_or_of_lt (i := 4 * k) (show pkd (dg w v) k < 2 ^ (4 * k) by rw [← p16]; exact pl) (dg w v k)
        rw [Nat.or_comm, Nat.mul_comm, ← this, show pkd (dg w v) (k + 1) = pkd (dg w v) k + dg w v k * 16 ^ k from rfl, p16, Nat.mul_comm, Nat.add_comm]
      have mb : dg w v k * 2 ^ (4 * k) ≤ 7 * 2 ^ 16 := Nat.mul_le_mul (by omega) p20
      rw [f_Ad_keepFound_L4, gI_n (c := 1) (kk100 lg), ob_v, G5, if_pos (nI_lt (show k < w by omega) (by omega))]
      simp only [gR_n (c := 1) (kk100 lg), LR lg, ob_v, rI_n (kk102 lg) (show k < 5 by omega) (by decide), u2, rI_n (kk103 lg) u1 (by decide), u3]
      rw [show (4 : Int32) * nI k = nI (4 * k) from pk_mul 4 k, pk_shlN _ (4 * k) (sh4 k (by omega)) (by omega), nI_or, or', nI_1]
      exact ih (k + 1) N (by omega) (by omega)
  unfold f_Ad_keepFound
  have := fun {ρ : Type} (kk : Int32 → Option ρ) => loop kk w 0 FU (by omega) (by unfold FU; omega)
  obtain ⟨g1, e1⟩ : ∃ g1, g1 = uI g 101 L.length (nI (pkd (dg w v) w)) := ⟨_, rfl⟩
  have f1 : Dfr (fun a k => (a = 100 ∧ k = 1) ∨ a = 101) g g1 := by rw [e1]; exact Dfr.uI (by decide) (Or.inr rfl)
  have l1 := f1.lay lg
  have w1 : wI g 101 (nI L.length) (nI (pkd (dg w v) w)) = some g1 := by rw [e1]; exact wI_n (by decide) (kk101 lg) hL (by decide)
  have v1 : hI g1 100 1 = nI L.length := by rw [e1, hI_ne (by omega)]; exact D.1
  obtain ⟨g2, e2⟩ : ∃ g2, g2 = uI g1 100 1 (nI (L.length + 1)) := ⟨_, rfl⟩
  have f2 : Dfr (fun a k => (a = 100 ∧ k = 1) ∨ a = 101) g1 g2 := by rw [e2]; exact Dfr.uI (by decide) (Or.inl ⟨rfl, rfl⟩)
  have w2 : pI 1 g1 100 1 (nI (L.length + 1)) = some g2 := by rw [e2]; exact pI_n (c := 1) (kk100 l1)
  refine OK.eq (a := g2) ((this _).trans ?_) ⟨f1.trans f2, ?_, fun i hi => ?_⟩
  · simp only [gI_n (c := 1) (kk100 lg), D.1, ob_v, show nI L.length < 6720 from nI_lt (b := 6720) hL (by decide), if_true, gR_n (c := 1) (kk100 lg), LR lg, w1, gI_n (c := 1) (kk100 l1), v1, nI_1, w2]
  · rw [e2, hI_eq, List.length_append]; rfl
  · rw [List.length_append] at hi
    have hi' : i < L.length + 1 := hi
    rw [e2, hI_ne (by omega), e1]
    by_cases q : i = L.length
    · subst q
      rw [hI_eq]
      congr 2
      simp
    · rw [hI_ne (by omega), D.2 i (by omega)]
      congr 3
      rw [List.getD_eq_getElem?_getD, List.getD_eq_getElem?_getD, List.getElem?_append_left (by omega)]
theorem FD.fr {g' : AH} {L : List Nat} (D : FD g w L) (e1 : hI g' 100 1 = hI g 100 1) (e2 : ∀ k, hI g' 101 k = hI g 101 k) : FD g' w L := ⟨by rw [e1]; exact D.1, fun i hi => by rw [e2]; exact D.2 i hi⟩
theorem blk {K r v c : Nat} (h1 : v * 8 ^ r ≤ c) (h2 : c < (v + 1) * 8 ^ r) (hv : v < 8 ^ K) : c / 8 ^ r = v ∧ c < 8 ^ (K + r) := by
  have p : 0 < 8 ^ r := Nat.pow_pos (by decide)
  constructor
  · exact Nat.div_eq_of_lt_le h1 h2
  · rw [Nat.pow_add]
    exact Nat.lt_of_lt_of_le h2 (Nat.mul_le_mul_right _ hv)
theorem AdF.dcong {d d' : Nat → Nat} {k0 : Nat} (F : AdF g x y a b n m w ms d k0) (e : ∀ k, k < k0 → d k = d' k) : AdF g x y a b n m w ms d' k0 := by
  obtain ⟨G0, G5, G6, G7, G8, G9⟩ := F
  refine ⟨G0, G5, G6, G7, fun k hk => ?_, fun k hk => by rw [← e k hk]; exact G9 k hk⟩
  obtain ⟨u1, u2, u3⟩ := G8 k hk
  refine ⟨u1, u2, ?_⟩
  rw [u3]
  by_cases q : k < k0
  · rw [if_pos q, if_pos q, e k q]
  · rw [if_neg q, if_neg q]
theorem assign_C (hl : Lay h) (mi : ∀ k k', k < w → k' < w → ms k = ms k' → k = k') (hU : ∀ i, i ≤ n → ∀ k, k < 8 → (¬ sX h x i k = -1 ∨ ¬ hX h x i k = -1) → ∃ q, q < w ∧ ms q = k) (M' : MCh n m (sX h x) (hX h x) (sX h y) (hX h y)) (hn : n ≤ 24) (hm : m ≤ 24) (HG : GdC h x y w ms G) (w5 : w ≤ 5) : ∀ r K v N (g : AH), K + r = w → r < N → v < 8 ^ K → AdS h g x y a b n m w ms K v → FD g w (gds G (v * 8 ^ r)) → OK (f_Ad_assign N g 100 (nI K)) (fun g' => AdS h g' x y a b n m w ms K v ∧ FD g' w (gds G ((v + 1) * 8 ^ r))) := by
  have b6720 : (gds G (8 ^ w)).length ≤ 6720 := gds_6720 w5 (fun c hc q => ((HG c hc).mp q).1)
  intro r
  induction r with
  | zero =>
    intro K v N g hw hN hv A D
    obtain ⟨N, rfl⟩ : ∃ q, N = q + 1 := ⟨N - 1, by omega⟩
    have Kw : K = w := by omega
    subst Kw
    obtain ⟨f, F, O, I⟩ := A
    have lg := f.lay hl
    obtain ⟨⟨x1, g1⟩, e1, f1, al⟩ := agree_C lg F
    dsimp only at f1 al
    obtain ⟨sxe, hxe⟩ := sad_m f
    rw [sxe, hxe, sad_en f] at al
    have f1' : Dfr SAd g g1 := f1.mono (fun a k z => Or.inl z)
    have l1 := f1.lay lg
    have D1 : FD g1 K (gds G (v * 8 ^ 0)) := D.fr (f1.I (by unfold SAg; omega)) (fun k => f1.I (by unfold SAg; omega))
    have F1 := F.fr lg f1
    have O1 : ∀ z, z < 8 → hI g1 104 z = oO ms (dg K v) K z := fun z hz => by rw [f1.I (by unfold SAg; omega)]; exact O z hz
    have m8 : ∀ k, k < K → ms k < 8 := fun k hk => (F.2.2.2.2.1 k hk).1
    have d8 : ∀ k, k < K → dg K v k < 8 := fun k _ => dg_lt K v k
    have e10 : (v + 1) * 8 ^ 0 = v + 1 := by simp
    have e00 : v * 8 ^ 0 = v := by simp
    rw [e00] at D1
    rw [e10]
    rw [f_Ad_assign, cv_n (c := 1) (kk100 lg), e1, bd2_v]
    rcases al with ⟨q1, q2⟩ | ⟨q1, q2⟩
    · have good : G v = true := (HG v hv).mpr ⟨I, goodA M' hU m8 d8 hn hm I q2⟩
      have len : (gds G v).length < 6720 := by
        have h1 : (gds G (v + 1)).length = (gds G v).length + 1 := by rw [gds_s, if_pos good, List.length_append]; rfl
        have h2 := gds_mono G (8 ^ K - (v + 1)) (v + 1)
        rw [show v + 1 + (8 ^ K - (v + 1)) = 8 ^ K by omega] at h2
        omega
      rw [q1, if_neg (show ¬ (1 : Int32) = 0 by decide), gI_n (c := 1) (kk100 l1), ob_v, F1.2.1, if_neg (nI_nlt (Nat.le_refl K) (by omega)), cv_n (c := 1) (kk100 l1)]
      refine OK.bind (OK.mono (keepF_C l1 F1 D1 len) (fun g2 ⟨f2, D2⟩ => ?_))
      have ag : Ag FTalk g1 g2 := f2.fr.ag (by unfold FTalk; omega)
      obtain ⟨⟨t1, t2, t3, t4⟩, t5, t6, t7, t8, t9⟩ := F1
      refine OK.mk ⟨⟨(f.trans f1').trans (f2.mono (fun a k z => by unfold SAd; omega)), ⟨⟨t1.ag l1.2.2.2.2.2.2 ag, t2.ag l1.2.2.2.2.2.2 ag, by rw [f2.R]; exact t3, by rw [f2.R]; exact t4⟩, by rw [f2.I (by omega)]; exact t5, t6, t7, fun k hk => ?_, t9⟩, fun z hz => by rw [f2.I (by omega)]; exact O1 z hz, I⟩, ?_⟩
      · obtain ⟨u1, u2, u3⟩ := t8 k hk
        exact ⟨u1, by rw [f2.I (by omega)]; exact u2, by rw [f2.I (by omega)]; exact u3⟩
      · rw [gds_s, if_pos good]; exact D2
    · have bad : G v = false := by
        cases z : G v with
        | false => rfl
        | true =>
          obtain ⟨z1, z2⟩ := (HG v hv).mp z
          exact absurd (goodB (k0 := K) M' hU m8 mi d8 (Nat.le_refl K) hn hm z1 (fun k _ => rfl) z2) q2
      rw [q1, if_pos rfl]
      refine OK.mk ⟨⟨f.trans f1', F1, O1, I⟩, ?_⟩
      rw [gds_s, bad, if_neg (by decide), List.append_nil]; exact D1
  | succ r ih =>
    intro K v N g hw hN hv A D
    obtain ⟨N, rfl⟩ : ∃ q, N = q + 1 := ⟨N - 1, by omega⟩
    obtain ⟨f, F, O, I⟩ := A
    have lg := f.lay hl
    obtain ⟨⟨x1, g1⟩, e1, f1, al⟩ := agree_C lg F
    dsimp only at f1 al
    obtain ⟨sxe, hxe⟩ := sad_m f
    rw [sxe, hxe, sad_en f] at al
    have f1' : Dfr SAd g g1 := f1.mono (fun a k z => Or.inl z)
    have l1 := f1.lay lg
    have D1 : FD g1 w (gds G (v * 8 ^ (r + 1))) := D.fr (f1.I (by unfold SAg; omega)) (fun k => f1.I (by unfold SAg; omega))
    have F1 := F.fr lg f1
    have O1 : ∀ z, z < 8 → hI g1 104 z = oO ms (dg K v) K z := fun z hz => by rw [f1.I (by unfold SAg; omega)]; exact O z hz
    have m8 : ∀ k, k < w → ms k < 8 := fun k hk => (F.2.2.2.2.1 k hk).1
    have p8 : 8 ^ (r + 1) = 8 * 8 ^ r := by rw [Nat.pow_succ, Nat.mul_comm]
    have eb : v * 8 ^ (r + 1) = (8 * v + 0) * 8 ^ r := by rw [p8, Nat.add_zero, ← Nat.mul_assoc, Nat.mul_comm v 8]
    have ee : (v + 1) * 8 ^ (r + 1) = (8 * v + 8) * 8 ^ r := by rw [p8, ← Nat.mul_assoc, show (v + 1) * 8 = 8 * v + 8 by omega]
    rw [f_Ad_assign, cv_n (c := 1) (kk100 lg), e1, bd2_v]
    rcases al with ⟨q1, q2⟩ | ⟨q1, q2⟩
    · have Kw : K < w := by omega
      obtain ⟨u1, u2, u3⟩ := F1.2.2.2.2.1 K Kw
      rw [q1, if_neg (show ¬ (1 : Int32) = 0 by decide), gI_n (c := 1) (kk100 l1), ob_v, F1.2.1, if_pos (nI_lt Kw (by omega))]
      simp only [gR_n (c := 1) (kk100 l1), LR l1, ob_v]
      rw [rI_n (kk102 l1) (show K < 5 by omega) (by decide), ob_v, u2]
      rw [eb] at D1
      rw [ee]
      have loop : ∀ e z Nf (g : AH), z + e = 8 → e < Nf → AdS h g x y a b n m w ms K v → FD g w (gds G ((8 * v + z) * 8 ^ r)) → OK (f_Ad_assign_L30 (fun h o p1 => f_Ad_assign N h o p1) 100 (nI K) (nI (ms K)) Nf (nI z) g) (fun g' => AdS h g' x y a b n m w ms K v ∧ FD g' w (gds G ((8 * v + 8) * 8 ^ r))) := by
        intro e
        induction e with
        | zero =>
          intro z Nf g z8 hf A D
          obtain ⟨Nf, rfl⟩ : ∃ q, Nf = q + 1 := ⟨Nf - 1, by omega⟩
          have : z = 8 := by omega
          subst this
          rw [f_Ad_assign_L30, if_neg (show ¬ nI 8 < 8 by decide)]
          exact OK.mk ⟨A, D⟩
        | succ e ihe =>
          intro z Nf g z8 hf A D
          obtain ⟨Nf, rfl⟩ : ∃ q, Nf = q + 1 := ⟨Nf - 1, by omega⟩
          obtain ⟨f, F, O, I⟩ := id A
          have lg := f.lay hl
          obtain ⟨⟨G1, G2, G3, G4⟩, G5, G6, G7, G8, G9⟩ := id F
          have zl : z < 8 := by omega
          have en1 : (8 * v + z + 1) * 8 ^ r = (8 * v + z) * 8 ^ r + 8 ^ r := by rw [Nat.add_mul (8 * v + z), Nat.one_mul]
          have vz : 8 * v + z < 8 ^ (K + 1) := by rw [Nat.pow_succ]; omega
          rw [f_Ad_assign_L30, if_pos (show nI z < 8 from nI_lt (b := 8) zl (by decide)), gR_n (c := 1) (kk100 lg), ob_v]
          simp only [LR lg, ob_v]
          rw [rI_n (kk104 lg) zl (by decide), ob_v, O z zl]
          rcases oO_r ms (dg K v) z K with ⟨o1, o2⟩ | ⟨k, o1, o2, o3⟩
          · -- z is free
            obtain ⟨g2, e2⟩ : ∃ g2, g2 = uI g 103 (ms K) (nI z) := ⟨_, rfl⟩
            have f2 : Dfr SAd g g2 := by rw [e2]; exact Dfr.uI (by decide) (by unfold SAd; omega)
            have l2 := f2.lay lg
            have w2 : wI g 103 (nI (ms K)) (nI z) = some g2 := by rw [e2]; exact wI_n (by decide) (kk103 lg) u1 (by decide)
            obtain ⟨g3, e3⟩ : ∃ g3, g3 = uI g2 104 z (nI (ms K)) := ⟨_, rfl⟩
            have f3 : Dfr SAd g2 g3 := by rw [e3]; exact Dfr.uI (by decide) (by unfold SAd; omega)
            have l3 := f3.lay l2
            have w3 : wI g2 104 (nI z) (nI (ms K)) = some g3 := by rw [e3]; exact wI_n (by decide) (kk104 l2) zl (by decide)
            have oth : ∀ a k, ¬ (a = 103 ∧ k = ms K) → ¬ (a = 104 ∧ k = z) → hI g3 a k = hI g a k := fun a k z1 z2 => by rw [e3, hI_ne z2, e2, hI_ne z1]
            have ag : Ag FTalk g g3 := (f2.trans f3).fr.ag (by unfold FTalk SAd SAg; omega)
            have A3 : AdS h g3 x y a b n m w ms (K + 1) (8 * v + z) := by
              refine ⟨(f.trans f2).trans f3, ⟨⟨G1.ag lg.2.2.2.2.2.2 ag, G2.ag lg.2.2.2.2.2.2 ag, by rw [f3.R, f2.R]; exact G3, by rw [f3.R, f2.R]; exact G4⟩, by rw [oth _ _ (by omega) (by omega)]; exact G5, G6, by omega, fun k hk => ?_, fun k _ => dg_lt _ _ k⟩, fun z' hz' => ?_, fun i j hij hj => ?_⟩
              · obtain ⟨y1, y2, y3⟩ := G8 k hk
                refine ⟨y1, by rw [oth _ _ (by omega) (by omega)]; exact y2, ?_⟩
                by_cases kK : k = K
                · subst kK
                  rw [if_pos (by omega), dg_last zl, e3, hI_ne (by omega), e2, hI_eq]
                · have : ¬ ms k = ms K := fun q => kK (mi k K hk Kw q)
                  rw [oth _ _ (by omega) (by omega), y3]
                  by_cases kk : k < K
                  · rw [if_pos kk, if_pos (by omega), dg_ext zl kk]
                  · rw [if_neg kk, if_neg (by omega)]
              · show hI g3 104 z' = if dg (K + 1) (8 * v + z) K = z' then nI (ms K) else oO ms (dg (K + 1) (8 * v + z)) K z'
                rw [dg_last zl, oO_cong K (fun k hk => dg_ext zl hk)]
                by_cases q : z = z'
                · subst q; rw [if_pos rfl, e3, hI_eq]
                · rw [if_neg q, oth _ _ (by omega) (by omega)]; exact O z' hz'
              · by_cases q : j = K
                · subst q
                  rw [dg_ext zl hij, dg_last zl]; exact o2 i hij
                · rw [dg_ext zl (by omega), dg_ext zl (by omega)]; exact I i j hij (by omega)
            have D3 : FD g3 w (gds G ((8 * v + z) * 8 ^ r)) := D.fr (oth _ _ (by omega) (by omega)) (fun k => oth _ _ (by omega) (by omega))
            rw [o1, if_pos rfl]
            simp only [gR_n (c := 1) (kk100 lg), LR lg, ob_v, w2, gR_n (c := 1) (kk100 l2), LR l2, w3, cv_n (c := 1) (kk100 l3), nI_1]
            refine OK.bind (OK.mono (ih (K + 1) (8 * v + z) N g3 (by omega) (by omega) vz A3 D3) (fun g4 ⟨A4, D4⟩ => ?_))
            obtain ⟨f4, F4, O4, I4⟩ := A4
            have l4 := f4.lay hl
            obtain ⟨g5, e5⟩ : ∃ g5, g5 = uI g4 103 (ms K) (-1) := ⟨_, rfl⟩
            have f5 : Dfr SAd g4 g5 := by rw [e5]; exact Dfr.uI (by decide) (by unfold SAd; omega)
            have l5 := f5.lay l4
            have w5' : wI g4 103 (nI (ms K)) (-1) = some g5 := by rw [e5]; exact wI_n (by decide) (kk103 l4) u1 (by decide)
            obtain ⟨g6, e6⟩ : ∃ g6, g6 = uI g5 104 z (-1) := ⟨_, rfl⟩
            have f6 : Dfr SAd g5 g6 := by rw [e6]; exact Dfr.uI (by decide) (by unfold SAd; omega)
            have w6 : wI g5 104 (nI z) (-1) = some g6 := by rw [e6]; exact wI_n (by decide) (kk104 l5) zl (by decide)
            have oth6 : ∀ a k, ¬ (a = 103 ∧ k = ms K) → ¬ (a = 104 ∧ k = z) → hI g6 a k = hI g4 a k := fun a k z1 z2 => by rw [e6, hI_ne z2, e5, hI_ne z1]
            have ag6 : Ag FTalk g4 g6 := (f5.trans f6).fr.ag (by unfold FTalk SAd SAg; omega)
            simp only [gR_n (c := 1) (kk100 l4), LR l4, ob_v, w5', gR_n (c := 1) (kk100 l5), LR l5, w6]
            obtain ⟨⟨H1, H2, H3, H4⟩, H5, H6, H7, H8, H9⟩ := F4
            refine ihe (z + 1) Nf g6 (by omega) (by omega) ⟨(f4.trans f5).trans f6, ⟨⟨H1.ag l4.2.2.2.2.2.2 ag6, H2.ag l4.2.2.2.2.2.2 ag6, by rw [f6.R, f5.R]; exact H3, by rw [f6.R, f5.R]; exact H4⟩, by rw [oth6 _ _ (by omega) (by omega)]; exact H5, H6, by omega, fun k hk => ?_, fun k _ => dg_lt _ _ k⟩, fun z' hz' => ?_, I⟩ ?_
            · obtain ⟨y1, y2, y3⟩ := H8 k hk
              refine ⟨y1, by rw [oth6 _ _ (by omega) (by omega)]; exact y2, ?_⟩
              by_cases kK : k = K
              · subst kK
                rw [if_neg (by omega), e6, hI_ne (by omega), e5, hI_eq]
              · have : ¬ ms k = ms K := fun q => kK (mi k K hk Kw q)
                rw [oth6 _ _ (by omega) (by omega), y3]
                by_cases kk : k < K
                · rw [if_pos kk, if_pos (by omega), dg_ext zl kk]
                · rw [if_neg kk, if_neg (by omega)]
            · by_cases q : z' = z
              · subst q; rw [e6, hI_eq, o1]
              · rw [oth6 _ _ (by omega) (by omega), O4 z' hz']
                show (if dg (K + 1) (8 * v + z) K = z' then nI (ms K) else oO ms (dg (K + 1) (8 * v + z)) K z') = _
                rw [dg_last zl, if_neg (fun y => q y.symm), oO_cong K (fun k hk => dg_ext zl hk)]
            · exact D4.fr (oth6 _ _ (by omega) (by omega)) (fun k => oth6 _ _ (by omega) (by omega))
          · -- z is taken
            have m8k := m8 k (by omega)
            rw [o3, if_neg (nI_nm1 (by omega)), nI_1]
            refine ihe (z + 1) Nf g (by omega) (by omega) A ?_
            rw [show 8 * v + (z + 1) = 8 * v + z + 1 by omega, en1, gds_none G (8 ^ r) _ (fun c c1 c2 => ?_)]
            · exact D
            · obtain ⟨b1, b2⟩ := blk (K := K + 1) c1 (by rw [en1]; exact c2) vz
              rw [show K + 1 + r = w by omega] at b2
              cases gc : G c with
              | false => rfl
              | true =>
                exfalso
                have I' := ((HG c b2).mp gc).1
                refine I' k K o1 Kw ?_
                rw [← show K + 1 + r = w by omega, dg_pre b1 (by omega), dg_pre b1 (by omega), dg_ext zl o1, dg_last zl]
                exact o2
      exact loop 8 0 FU g1 (by omega) (by unfold FU; omega) ⟨f.trans f1', F1, O1, I⟩ D1
    · rw [q1, if_pos rfl]
      refine OK.mk ⟨⟨f.trans f1', F1, O1, I⟩, ?_⟩
      rw [Nat.add_mul, Nat.one_mul, gds_none G (8 ^ (r + 1)) _ (fun c c1 c2 => ?_)]
      · exact D1
      · obtain ⟨b1, b2⟩ := blk (K := K) c1 (by rw [Nat.add_mul, Nat.one_mul]; exact c2) hv
        rw [hw] at b2
        cases gc : G c with
        | false => rfl
        | true =>
          exfalso
          obtain ⟨z1, z2⟩ := (HG c b2).mp gc
          refine q2 (goodB (D := dg w c) (k0 := K) M' hU m8 mi (fun k _ => dg_lt w c k) (by omega) hn hm z1 (fun k hk => ?_) z2)
          rw [← hw]; exact dg_pre b1 hk
end AE
