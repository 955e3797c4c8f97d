/-! adapters() and adapter(), both -/
theorem Gd.loc {sA hA sB hB sA' hA' sB' hB' : Mc} {eA eB eA' eB' : Nat → Int32} {n m : Nat} (M : MCh n m sA hA sB hB) (hn : n ≤ 24) (hm : m ≤ 24) (e : ∀ i, i ≤ n → ∀ z, z < 8 → sA' i z = sA i z ∧ hA' i z = hA i z) (e' : ∀ i, i ≤ m → ∀ z, z < 8 → sB' i z = sB i z ∧ hB' i z = hB i z) (f : ∀ i, i ≤ n → eA' i = eA i) (f' : ∀ i, i ≤ m → eB' i = eB i) (G : Gd sA hA sB hB eA eB) : Gd sA' hA' sB' hB' eA' eB' := by
  obtain ⟨I, I0, I1⟩ := G
  refine ⟨fun i j => I i j ∧ i ≤ n ∧ j ≤ m, ⟨I0, Nat.zero_le _, Nat.zero_le _⟩, fun i j ⟨q, hi, hj⟩ => ?_⟩
  obtain ⟨a, b, c⟩ := I1 i j q
  refine ⟨?_, fun z z8 p1 p2 => ?_, fun z z8 p1 p2 => ?_⟩
  · have a := (fnd0_iff _).mp a
    refine (fnd0_iff _).mpr ⟨fun z z8 => ?_, ?_⟩
    · show (¬ sA' i z = -1 → ¬ hB' j z = -1) ∧ (¬ sB' j z = -1 → ¬ hA' i z = -1)
      rw [(e i hi z z8).1, (e i hi z z8).2, (e' j hj z z8).1, (e' j hj z z8).2]; exact a.1 z z8
    · show (∃ z, z < 8 ∧ ¬ sA' i z = -1) ∨ (∃ z, z < 8 ∧ ¬ sB' j z = -1) ∨ (eA' i = 1 ∧ eB' j = 1)
      rw [f i hi, f' j hj]
      rcases a.2 with ⟨z, z8, q⟩ | ⟨z, z8, q⟩ | q
      · exact Or.inl ⟨z, z8, by rw [(e i hi z z8).1]; exact q⟩
      · exact Or.inr (Or.inl ⟨z, z8, by rw [(e' j hj z z8).1]; exact q⟩)
      · exact Or.inr (Or.inr q)
  · rw [(e i hi z z8).1] at p1 ⊢
    rw [(e' j hj z z8).2] at p2 ⊢
    exact ⟨b z z8 p1 p2, ((mc_A M hi z8 hn).1 p1).1, ((mc_B M hj z8 hm).2 p2).1⟩
  · rw [(e i hi z z8).2] at p2 ⊢
    rw [(e' j hj z z8).1] at p1 ⊢
    exact ⟨c z z8 p1 p2, ((mc_A M hi z8 hn).2 p2).1, ((mc_B M hj z8 hm).1 p1).1⟩
theorem mch_sOd {sA hA sB hB : Mc} {n m w : Nat} {ms d : Nat → Nat} (M : MCh n m sA hA sB hB) (m8 : ∀ k, k < w → ms k < 8) : MCh n m (sOd sA ms d w) (sOd hA ms d w) sB hB := by
  refine ⟨fun i hi k hk => ?_, M.2⟩
  rcases oO_r ms d k w with ⟨z1, _⟩ | ⟨q, z1, _, z3⟩
  · exact ⟨Or.inl (by unfold sOd; rw [if_pos z1]), Or.inl (by unfold sOd; rw [if_pos z1])⟩
  · have q8 := m8 q z1
    have es : ∀ s : Mc, sOd s ms d w i k = s i (ms q) := fun s => by
      unfold sOd; rw [z3, if_neg (nI_nm1 (by omega)), tN_nI (by omega)]
    rw [es, es]
    exact M.1 i hi (ms q) q8
def RAd (h : AH) (tn : Nat) (ta ts : Nat → Nat) : Prop := (∀ t t', t < tn → t' < tn → ta t = ta t' → t = t') ∧ ((hR h 100 2 = none ∧ hR h 100 3 = none) ∨ ∃ x y, x < tn ∧ y < tn ∧ hR h 100 2 = some (ta x) ∧ hR h 100 3 = some (ta y) ∧ ∃ (w : Nat) (ms : Nat → Nat) (G : Nat → Bool), MsOK (usg h x (ts x) 0 ||| usg h x (ts x) 1) w ms ∧ w ≤ 5 ∧ GdC h x y w ms G ∧ Cch h (ta x) (ta y) w ms G)
section OA
variable {h h' g : AH} {x y a b n m w : Nat} {ms : Nat → Nat} {G : Nat → Bool}
theorem GdC.keep (T1 : TK h x a n) (T2 : TK h y b m) (m8 : ∀ k, k < w → ms k < 8) (e1 : ∀ s, s ≤ 24 → ∀ k, k < 16 → nx h' x s k = nx h x s k) (e2 : ∀ s, s ≤ 24 → ∀ k, k < 16 → nx h' y s k = nx h y s k) (f1 : ∀ s, s ≤ 24 → en h' x s = en h x s) (f2 : ∀ s, s ≤ 24 → en h' y s = en h y s) (HG : GdC h x y w ms G) : GdC h' x y w ms G := by
  have n24 := T1.1
  have m24 := T2.1
  have M := mch_T T1 T2
  intro c hc
  rw [HG c hc]
  refine and_congr_right (fun I => ?_)
  have sO' : ∀ i, i ≤ n → ∀ z, z < 8 → sOd (sX h' x) ms (dg w c) w i z = sOd (sX h x) ms (dg w c) w i z ∧ sOd (hX h' x) ms (dg w c) w i z = sOd (hX h x) ms (dg w c) w i z := by
    intro i hi z hz
    rcases oO_r ms (dg w c) z w with ⟨z1, _⟩ | ⟨q, z1, _, z3⟩
    · unfold sOd; rw [if_pos z1, if_pos z1, if_pos z1, if_pos z1]; exact ⟨rfl, rfl⟩
    · have q8 := m8 q z1
      have es : ∀ s : Mc, sOd s ms (dg w c) w i z = s i (ms q) := fun s => by
        unfold sOd; rw [z3, if_neg (nI_nm1 (by omega)), tN_nI (by omega)]
      rw [es, es, es, es]
      exact ⟨e1 i (by omega) (8 + ms q) (by omega), e1 i (by omega) (ms q) (by omega)⟩
  have sB' : ∀ i, i ≤ m → ∀ z, z < 8 → sX h' y i z = sX h y i z ∧ hX h' y i z = hX h y i z := fun i hi z hz => ⟨e2 i (by omega) (8 + z) (by omega), e2 i (by omega) z (by omega)⟩
  have M1 := mch_sOd (d := dg w c) M m8
  have M2 : MCh n m (sOd (sX h' x) ms (dg w c) w) (sOd (hX h' x) ms (dg w c) w) (sX h' y) (hX h' y) := by
    refine ⟨fun i hi k hk => ?_, fun i hi k hk => ?_⟩
    · rw [(sO' i hi k hk).1, (sO' i hi k hk).2]; exact M1.1 i hi k hk
    · rw [(sB' i hi k hk).1, (sB' i hi k hk).2]; exact M1.2 i hi k hk
  exact ⟨Gd.loc M1 n24 m24 sO' sB' (fun i hi => f1 i (by omega)) (fun i hi => f2 i (by omega)), Gd.loc M2 n24 m24 (fun i hi z hz => ⟨(sO' i hi z hz).1.symm, (sO' i hi z hz).2.symm⟩) (fun i hi z hz => ⟨(sB' i hi z hz).1.symm, (sB' i hi z hz).2.symm⟩) (fun i hi => (f1 i (by omega)).symm) (fun i hi => (f2 i (by omega)).symm)⟩
theorem usg_keep (n24 : n ≤ 24) (e1 : ∀ s, s ≤ 24 → ∀ k, k < 16 → nx h' x s k = nx h x s k) (k : Nat) : usg h' x n k = usg h x n k := by
  unfold usg
  have : ∀ N, N ≤ 25 → orU (fun s => if k = 0 then hrs h' x s else sys h' x s) N = orU (fun s => if k = 0 then hrs h x s else sys h x s) N := by
    intro N
    induction N with
    | zero => intro _; rfl
    | succ N ih =>
      intro hN
      simp only [orU]
      rw [ih (by omega)]
      congr 1
      by_cases q : k = 0
      · rw [if_pos q, if_pos q]; unfold hrs; exact msk_ext (fun i hi => by rw [e1 N (by omega) i (by omega)])
      · rw [if_neg q, if_neg q]; unfold sys; exact msk_ext (fun i hi => by rw [e1 N (by omega) (8 + i) (by omega)])
  exact this (n + 1) (by omega)
theorem Cch.fr (C : Cch h a b w ms G) (eR : ∀ k, hR h' 100 k = hR h 100 k) (e1 : hI h' 100 1 = hI h 100 1) (e5 : hI h' 100 5 = hI h 100 5) (e101 : ∀ k, hI h' 101 k = hI h 101 k) (e102 : ∀ k, hI h' 102 k = hI h 102 k) : Cch h' a b w ms G := by
  obtain ⟨C1, C2, C3, C4, C5⟩ := C
  exact ⟨by rw [eR]; exact C1, by rw [eR]; exact C2, by rw [e5]; exact C3, fun k hk => ⟨(C4 k hk).1, by rw [e102]; exact (C4 k hk).2⟩, C5.fr e1 e101⟩
theorem RAd.keep {tn tn' : Nat} {ta ts ta' ts' : Nat → Nat} (rt : RTalks h tn ta ts) (ra : RAd h tn ta ts) (inj : ∀ t t', t < tn' → t' < tn' → ta' t = ta' t' → t = t') (le : tn ≤ tn') (ea : ∀ t, t < tn → ta' t = ta t ∧ ts' t = ts t) (en1 : ∀ t, t < tn → ∀ s, s ≤ 24 → (∀ k, k < 16 → nx h' t s k = nx h t s k) ∧ en h' t s = en h t s) (eR : ∀ k, hR h' 100 k = hR h 100 k) (e1 : hI h' 100 1 = hI h 100 1) (e5 : hI h' 100 5 = hI h 100 5) (e101 : ∀ k, hI h' 101 k = hI h 101 k) (e102 : ∀ k, hI h' 102 k = hI h 102 k) : RAd h' tn' ta' ts' := by
  refine ⟨inj, ?_⟩
  rcases ra.2 with ⟨z1, z2⟩ | ⟨x, y, hx, hy, z1, z2, w, ms, G, M, w5, HG, C⟩
  · exact Or.inl ⟨by rw [eR]; exact z1, by rw [eR]; exact z2⟩
  · obtain ⟨_, T1⟩ := rt.2.2.2 x hx
    obtain ⟨_, T2⟩ := rt.2.2.2 y hy
    refine Or.inr ⟨x, y, by omega, by omega, by rw [eR, (ea x hx).1]; exact z1, by rw [eR, (ea y hy).1]; exact z2, w, ms, G, ?_, w5, ?_, ?_⟩
    · rw [(ea x hx).2, usg_keep T1.1 (fun s hs => (en1 x hx s hs).1), usg_keep T1.1 (fun s hs => (en1 x hx s hs).1)]; exact M
    · exact HG.keep T1 T2 (fun k hk => (M.2 k hk).1) (fun s hs => (en1 x hx s hs).1) (fun s hs => (en1 y hy s hs).1) (fun s hs => (en1 x hx s hs).2) (fun s hs => (en1 y hy s hs).2)
    · rw [(ea x hx).1, (ea y hy).1]
      exact C.fr eR e1 e5 e101 e102
def FAd (a k : Nat) : Prop := (a = 100 ∧ (k = 1 ∨ k = 2 ∨ k = 3 ∨ k = 5)) ∨ a = 101 ∨ a = 102 ∨ a = 204 ∨ a = 205
theorem RAd.ag {tn : Nat} {ta ts : Nat → Nat} (ra : RAd h tn ta ts) (hm : 237 ≤ hM h) (f : Ag FAd h h') : RAd h' tn ta ts := by
  have e : ∀ a k, FAd a k → a < 237 → hI h' a k = hI h a k ∧ hR h' a k = hR h a k := fun a k z l => ⟨(f.2.2 a k (by omega) z).1, (f.2.2 a k (by omega) z).2.2⟩
  have nxe : nx h' = nx h := by funext t s k; exact (e 204 _ (by unfold FAd; omega) (by decide)).1
  have ene : en h' = en h := by funext t s; exact (e 205 _ (by unfold FAd; omega) (by decide)).1
  have sxe : sX h' = sX h := by unfold sX; rw [nxe]
  have hxe : hX h' = hX h := by unfold hX; rw [nxe]
  have r2 : hR h' 100 2 = hR h 100 2 := (e 100 2 (by unfold FAd; omega) (by decide)).2
  have r3 : hR h' 100 3 = hR h 100 3 := (e 100 3 (by unfold FAd; omega) (by decide)).2
  refine ⟨ra.1, ?_⟩
  rcases ra.2 with ⟨z1, z2⟩ | ⟨x, y, hx, hy, z1, z2, w, ms, G, M, w5, HG, C⟩
  · exact Or.inl ⟨by rw [r2]; exact z1, by rw [r3]; exact z2⟩
  · refine Or.inr ⟨x, y, hx, hy, by rw [r2]; exact z1, by rw [r3]; exact z2, w, ms, G, ?_, w5, ?_, ?_⟩
    · rw [usg_cong nxe, usg_cong nxe]; exact M
    · unfold GdC; rw [sxe, hxe, ene]; exact HG
    · obtain ⟨C1, C2, C3, C4, C5⟩ := C
      exact ⟨by rw [r2]; exact C1, by rw [r3]; exact C2, by rw [(e 100 5 (by unfold FAd; omega) (by decide)).1]; exact C3, fun k hk => ⟨(C4 k hk).1, by rw [(e 102 k (by unfold FAd; omega) (by decide)).1]; exact (C4 k hk).2⟩, C5.fr (e 100 1 (by unfold FAd; omega) (by decide)).1 (fun k => (e 101 k (by unfold FAd; omega) (by decide)).1)⟩
theorem pick_G (h : AH) (x y w : Nat) (ms : Nat → Nat) : ∃ G : Nat → Bool, GdC h x y w ms G :=
  ⟨fun c => @decide (Inj (dg w c) w ∧ Gd (sOd (sX h x) ms (dg w c) w) (sOd (hX h x) ms (dg w c) w) (sX h y) (hX h y) (en h x) (en h y)) (Classical.propDecidable _), fun c _ => by
    exact @decide_eq_true_iff _ (Classical.propDecidable _)⟩
theorem pick_A {tn : Nat} {ta ts : Nat → Nat} (rt : RTalks h tn ta ts) (ra : RAd h tn ta ts) (hx : x < tn) (hy : y < tn) (w5 : cnS (fun z => (usg h x (ts x) 0 ||| usg h x (ts x) 1).testBit z) 8 ≤ 5) : ∃ (w : Nat) (ms : Nat → Nat) (G : Nat → Bool), MsOK (usg h x (ts x) 0 ||| usg h x (ts x) 1) w ms ∧ w ≤ 5 ∧ GdC h x y w ms G ∧ (hR h 100 2 = some (ta x) → hR h 100 3 = some (ta y) → Cch h (ta x) (ta y) w ms G) := by
  by_cases hit : hR h 100 2 = some (ta x) ∧ hR h 100 3 = some (ta y)
  · rcases ra.2 with ⟨z1, z2⟩ | ⟨x', y', hx', hy', z1, z2, w, ms, G, M, w5', HG, C⟩
    · rw [z1] at hit; exact absurd hit.1 (by intro z; cases z)
    · rw [z1, z2] at hit
      have ex := ra.1 x' x hx' hx (Option.some.inj hit.1)
      have ey := ra.1 y' y hy' hy (Option.some.inj hit.2)
      subst ex
      subst ey
      exact ⟨w, ms, G, M, w5', HG, fun _ _ => C⟩
  · obtain ⟨ms, M⟩ := ms_ex (usg h x (ts x) 0 ||| usg h x (ts x) 1)
    obtain ⟨G, HG⟩ := pick_G h x y (cnS (fun z => (usg h x (ts x) 0 ||| usg h x (ts x) 1).testBit z) 8) ms
    exact ⟨_, ms, G, M, w5, HG, fun z1 z2 => absurd ⟨z1, z2⟩ hit⟩
def SAc (a k : Nat) : Prop := SAf a k ∨ (a = 4 ∧ k = 7)
def SAp (a k : Nat) : Prop := SAc a k ∨ SSk a k ∨ (a = 201 ∧ k = 7)
theorem adapt_C {tn : Nat} {ta ts : Nat → Nat} (hl : Lay h) (rt : RTalks h tn ta ts) (ra : RAd h tn ta ts) {u : Nat} (v47 : hI h 4 7 = nI u) (hx : x < tn) (hy : y < tn) (w5 : cnS (fun z => (usg h x (ts x) 0 ||| usg h x (ts x) 1).testBit z) 8 ≤ 5) : ∃ (w : Nat) (ms : Nat → Nat) (G : Nat → Bool) (h1 : AH), f_C_adapt h 4 (nI x) (nI y) = some h1 ∧ Lay h1 ∧ Fr SAc h h1 ∧ hI h1 4 7 = nI (u + 1) ∧ MsOK (usg h x (ts x) 0 ||| usg h x (ts x) 1) w ms ∧ w ≤ 5 ∧ GdC h x y w ms G ∧ Cch h1 (ta x) (ta y) w ms G := by
  have hm := hl.2.2.2.2.2.2
  have t6 := rt.1
  obtain ⟨w, ms, G, M, w5', HG, same⟩ := pick_A rt ra hx hy w5
  obtain ⟨h2, e2⟩ : ∃ h2, h2 = uI h 4 7 (nI (u + 1)) := ⟨_, rfl⟩
  have f2 : Dfr (fun a k => a = 4 ∧ k = 7) h h2 := by rw [e2]; exact Dfr.uI (by decide) ⟨rfl, rfl⟩
  have l2 := f2.lay hl
  have w2 : pI 0 h 4 7 (nI (u + 1)) = some h2 := by rw [e2]; exact pI_n (c := 0) (kk4 hl)
  have ag : Ag FTalk h h2 := f2.fr.ag (by unfold FTalk; omega)
  obtain ⟨r1, T1⟩ := rt.2.2.2 x hx
  obtain ⟨r2, T2⟩ := rt.2.2.2 y hy
  have nx2 : nx h2 = nx h := by funext t s k; exact f2.I (by omega)
  have en2 : en h2 = en h := by funext t s; exact f2.I (by omega)
  have sx2 : sX h2 = sX h := by unfold sX; rw [nx2]
  have hx2 : hX h2 = hX h := by unfold hX; rw [nx2]
  have q1 : rR 9 h2 91 (nI x) = some (some (ta x)) := by rw [rR_n (c := 9) (kk91 l2) (by omega) (by decide), f2.R, r1]
  have q2 : rR 9 h2 91 (nI y) = some (some (ta y)) := by rw [rR_n (c := 9) (kk91 l2) (by omega) (by decide), f2.R, r2]
  have k4 : ∀ r, (r = 2 ∨ r = 3) → ∀ q ∈ hR h2 100 r, 4 ≤ q := by
    intro r hr q hq
    rw [f2.R] at hq
    rcases ra.2 with ⟨z1, z2⟩ | ⟨x', y', hx', hy', z1, z2, _⟩
    · rcases hr with rfl | rfl
      · rw [z1] at hq; cases hq
      · rw [z2] at hq; cases hq
    · have a1 := (rt.2.2.2 x' hx').2.2.1
      have a2 := (rt.2.2.2 y' hy').2.2.1
      rcases hr with rfl | rfl
      · rw [z1] at hq; cases hq; omega
      · rw [z2] at hq; cases hq; omega
  obtain ⟨h1, e1, f1, l1, C1⟩ := find_C (w := w) (ms := ms) (G := G) l2 (T1.ag hm ag) (T2.ag hm ag) (by rw [usg_cong nx2, usg_cong nx2]; exact M) w5' (by unfold GdC; rw [sx2, hx2, en2]; exact HG) (k4 2 (Or.inl rfl)) (k4 3 (Or.inr rfl)) (fun z1 z2 => by
    rw [f2.R] at z1 z2
    exact (same z1 z2).fr (fun k => f2.R 100 k) (f2.I (by omega)) (f2.I (by omega)) (fun k => f2.I (by omega)) (fun k => f2.I (by omega)))
  refine ⟨w, ms, G, h1, ?_, l1, (f2.fr.mono (fun a k z => Or.inr z)).trans (f1.mono (fun a k z => Or.inl z)), ?_, M, w5', HG, C1⟩
  · rw [f_C_adapt, gI_n (c := 0) (kk4 hl), ob_v, v47, nI_1, w2, ob_v]
    simp only [gR_n (c := 0) (kk4 l2), LR l2, ob_v, q1, q2, cv_n (c := 1) (kk100 l2), e1]
  · rw [f1.I (by unfold SAf SAd SAg; omega), e2, hI_eq]
theorem refuse_C {tn : Nat} {ta ts : Nat → Nat} (hl : Lay h) (rt : RTalks h tn ta ts) {u : Nat} (v47 : hI h 4 7 = nI u) (hx : x < tn) (hy : y < tn) (Z : Int32) : f_C_adaptingRefusal h 4 (nI x) (nI y) Z = some (if (5 : Int32) < nI (cnS (fun z => (usg h x (ts x) 0 ||| usg h x (ts x) 1).testBit z) 8) then -102 else if (if Z < 0 then (0 : Int32) else if Z < nI 8 then 1 else 0) = 0 then -102 else if nI u < 20 then 0 else -103) := by
  obtain ⟨c1, c2⟩ := talkC hl rt
  obtain ⟨_, T1⟩ := rt.2.2.2 x hx
  have Ul : usg h x (ts x) 0 ||| usg h x (ts x) 1 < 2 ^ 8 := or_lt (usg_lt h x (ts x) 0) (usg_lt h x (ts x) 1)
  rw [f_C_adaptingRefusal]
  simp only [cv_n (kk4 hl), (c1 x hx).1, (c1 y hy).1, ob_v, onl, cv_n (c := 9) T1.2.2.2.1.1, messages_C T1, bc_v h Ul, isMsg_C, gI_n (c := 0) (kk4 hl), v47]
  repeat (first | rfl | split)
theorem barred_M {tn : Nat} {ta ts : Nat → Nat} (hl : Lay h) (rt : RTalks h tn ta ts) {u : Nat} (v47 : hI h 201 7 = nI u) (hx : x < tn) (hy : y < tn) : f_M_barred h 201 (nI x) (nI y) = some (if (5 : Int32) < nI (cnS (fun z => (usg h x (ts x) 0 ||| usg h x (ts x) 1).testBit z) 8) then -102 else if nI u = 20 then -103 else 0) := by
  obtain ⟨c1, c2⟩ := talkC hl rt
  obtain ⟨_, T1⟩ := rt.2.2.2 x hx
  have t6 := rt.1
  have Ul : usg h x (ts x) 0 ||| usg h x (ts x) 1 < 2 ^ 8 := or_lt (usg_lt h x (ts x) 0) (usg_lt h x (ts x) 1)
  rw [f_M_barred]
  simp only [cv_n (kk201 hl), (c1 x hx).2, (c1 y hy).2, ob_v, show ¬ ((1 : Int32) = 0) by decide, if_false, messages_M hl T1 (show x < 6 by omega), ones_M h Ul, gI_n (kk201 hl), v47]
  split
  · rfl
  · split <;> rfl
end OA
