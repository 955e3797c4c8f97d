/-! join() -/
theorem ex0_c {sA hA sB hB sA' hA' : Mc} {t : Nat} {p : Pl} (e1 : ∀ i k, k < 8 → sA i k = sA' i k) (e2 : ∀ i k, k < 8 → hA i k = hA' i k) : ∀ d S, d ≤ 8 → ex0 sA hA sB hB t p d S = ex0 sA' hA' sB hB t p d S
  | 0, S, _ => rfl
  | d + 1, S, h => by
    rw [ex0, ex0]
    have : st0 sA hA sB hB t p S (7 - d) = st0 sA' hA' sB hB t p S (7 - d) := by unfold st0; rw [e1 _ _ (show 7 - d < 8 by omega), e2 _ _ (show 7 - d < 8 by omega)]
    rw [this]
    exact ex0_c e1 e2 d _ (by omega)
theorem unh_c {sA hA sB hB sA' hA' : Mc} {p : Pl} (e1 : ∀ i k, k < 8 → sA i k = sA' i k) (e2 : ∀ i k, k < 8 → hA i k = hA' i k) : ∀ k, k ≤ 8 → unh sA hA sB hB p k = unh sA' hA' sB hB p k ∧ mvd sA hA sB hB p k = mvd sA' hA' sB hB p k
  | 0, _ => ⟨rfl, rfl⟩
  | k + 1, h => by
    obtain ⟨i1, i2⟩ := unh_c (sB := sB) (hB := hB) (p := p) e1 e2 k (by omega)
    rw [unh, unh, mvd, mvd, i1, i2, e1 _ _ (show k < 8 by omega), e2 _ _ (show k < 8 by omega)]
    exact ⟨rfl, rfl⟩
theorem bfs_c {sA hA sB hB sA' hA' : Mc} {eA eB : Nat → Int32} (e1 : ∀ i k, k < 8 → sA i k = sA' i k) (e2 : ∀ i k, k < 8 → hA i k = hA' i k) : ∀ d t S f w, bfs 0 sA hA sB hB eA eB d t S f w = bfs 0 sA' hA' sB hB eA eB d t S f w
  | 0, _, _, _, _ => rfl
  | d + 1, t, S, f, w => by
    have a1 : stW 0 sA hA sB hB t (S.2.1 t) S = stW 0 sA' hA' sB hB t (S.2.1 t) S := by unfold stW; rw [if_pos rfl, if_pos rfl]; exact ex0_c e1 e2 8 S (Nat.le_refl _)
    have a2 : fdW 0 sA hA sB hB eA eB (S.2.1 t) = fdW 0 sA' hA' sB hB eA eB (S.2.1 t) := by
      unfold fdW fnd0
      rw [(unh_c e1 e2 8 (Nat.le_refl _)).1, (unh_c e1 e2 8 (Nat.le_refl _)).2, if_pos rfl, if_pos rfl]
    rw [bfs, bfs, a1, a2]
    by_cases q : t < S.1.1 ∧ S.1.2 = false
    · rw [if_pos q, if_pos q]; exact bfs_c e1 e2 d _ _ _ _
    · rw [if_neg q, if_neg q]
section OJ
variable {h g : AH} {x y a b n m K tn : Nat} {ta ts : Nat → Nat} {S : WSt} {t : Nat}
theorem same_M (hl : Lay g) : OK (f_M_same g 201) (fun g' => Dfr (fun a _ => a = 229 ∨ a = 230) g g' ∧ ∀ z, z < 8 → hI g' 229 z = nI z ∧ hI g' 230 z = nI z) := by
  have main : ∀ N (s : Nat × AH), (s.1 ≤ 8 ∧ Dfr (fun a _ => a = 229 ∨ a = 230) g s.2 ∧ ∀ z, z < s.1 → hI s.2 229 z = nI z ∧ hI s.2 230 z = nI z) → 8 - s.1 < N → OK (f_M_same_L2 201 N (nI s.1) s.2) (fun g' => Dfr (fun a _ => a = 229 ∨ a = 230) g g' ∧ ∀ z, z < 8 → hI g' 229 z = nI z ∧ hI g' 230 z = nI z) := by
    refine loopU (fun N (s : Nat × AH) => f_M_same_L2 201 N (nI s.1) s.2) _ (fun s => 8 - s.1) _ ?_
    intro N s ⟨h1, h2, h3⟩ ih
    obtain ⟨i, e⟩ := s
    dsimp only at h1 h2 h3 ih ⊢
    have le := h2.lay hl
    by_cases q : i < 8
    · have qi : nI i < 8 := nI_lt (b := 8) q (by decide)
      obtain ⟨g1, e1⟩ : ∃ g1, g1 = uI e 229 i (nI i) := ⟨_, rfl⟩
      have f1 : Dfr (fun a _ => a = 229 ∨ a = 230) e g1 := by rw [e1]; exact Dfr.uI (by decide) (Or.inl rfl)
      have l1 := f1.lay le
      have p1 : wI e 229 (nI i) (nI i) = some g1 := by rw [e1]; exact wI_n (by decide) (kk229 le) q (by decide)
      obtain ⟨g2, e2⟩ : ∃ g2, g2 = uI g1 230 i (nI i) := ⟨_, rfl⟩
      have f2 : Dfr (fun a _ => a = 229 ∨ a = 230) g1 g2 := by rw [e2]; exact Dfr.uI (by decide) (Or.inr rfl)
      have p2 : wI g1 230 (nI i) (nI i) = some g2 := by rw [e2]; exact wI_n (by decide) (kk230 l1) q (by decide)
      simp only [f_M_same_L2, qi, if_true, gR_n (kk201 le), LR le, ob_v, p1, gR_n (kk201 l1), LR l1, p2, nI_1]
      refine ih (i + 1, g2) ⟨by dsimp only; omega, h2.trans (f1.trans f2), fun z hz => ?_⟩ (by dsimp only; omega)
      dsimp only at hz ⊢
      rw [e2, hI_ne (by omega), e1]
      by_cases w : z = i
      · rw [w, hI_eq, hI_eq]; exact ⟨rfl, rfl⟩
      · rw [hI_ne (by omega), hI_ne (by omega), hI_ne (by omega)]; exact h3 z (by omega)
    · have : i = 8 := by omega
      subst this
      simp only [f_M_same_L2, show ¬ nI 8 < 8 by decide, if_false]
      exact OK.mk ⟨h2, h3⟩
  exact main FU (0, g) ⟨by simp, Dfr.refl, fun z hz => absurd hz (by simp)⟩ (by show 8 - 0 < FU; unfold FU; omega)
def SMj (a k : Nat) : Prop := SMw a k ∨ (a = 201 ∧ (k = 6 ∨ k = 35 ∨ k = 36)) ∨ a = 224 ∨ a = 229 ∨ a = 230
/-- what both leave of the latest walk -/
theorem join_M (hl : Lay h) (k2 : K ≤ 2) (T1 : TK h x a n) (T2 : TK h y b m) (hx : x < 6) (hy : y < 6) {R : WSt × Nat × Nat} (hR' : bfs K (sX h x) (hX h x) (sX h y) (hX h y) (en h x) (en h y) 4001 0 S01 0 0 = R) (c6 : hI h 201 6 = nI t) (ht : t < 2 ^ 20) :
    OK ((gI 12 h 201 6).bind fun x4 =>
          (
            if (0 : Int32) < nI K then
              some ((1 : Int32))
            else
              some ((0 : Int32))
          ).bind fun x5 =>
          (pI 12 h 201 6 (x4 + x5)).bind fun h6 =>
          (cv 12 h6 201 (f_M_same h6 201)).bind fun h7 =>
          bd2 (
            if nI K = (0 : Int32) then
              bd2 (cv 12 h7 201 (f_M_walk h7 201 (nI x) (nI y) (1 : Int32))) fun x10 h11 =>
              some (x10, h11)
            else
              bd2 (cv 12 h7 201 (f_M_walkQueues h7 201 (nI x) (nI y) (nI K))) fun x8 h9 =>
              some (x8, h9)
          ) fun x12 h13 =>
          (gI 12 h13 201 38).bind fun x14 =>
          (pI 12 h13 201 35 x14).bind fun h15 =>
          (pI 12 h15 201 36 (0 : Int32)).bind fun h16 =>
          (f_M_in h16 x12 (1 : Int32) (2 : Int32)).bind fun x17 =>
          if x17 = (0 : Int32) then
            some (x12, h16)
          else
            (gI 12 h16 201 47).bind fun x18 =>
            (cv 12 h16 201 (f_M_traceTo h16 201 x18)).bind fun h19 =>
            some (x12, h19)) (fun q => q.1 = (if R.1.1.2 = true then 3 else nI R.2.1) ∧ Dfr SMj h q.2 ∧ hI q.2 201 6 = nI (t + (if 0 < K then 1 else 0)) ∧ hI q.2 201 35 = nI R.1.1.1 ∧ (if R.1.1.2 = true ∨ R.2.1 = 0 then hI q.2 201 36 = 0 else ∃ L, hI q.2 201 36 = nI L ∧ WayA R.1 R.2.2 L (hI q.2 224))) := by
  have t1 := T1.1
  have t2 := T2.1
  obtain ⟨u, eu⟩ : ∃ u, u = t + (if 0 < K then 1 else 0) := ⟨_, rfl⟩
  have x5 : ((if (0 : Int32) < nI K then some (1 : Int32) else some (0 : Int32)) : Option Int32) = some (nI (if 0 < K then 1 else 0)) := by
    by_cases z : 0 < K
    · rw [if_pos (show (0 : Int32) < nI K from nI_lt (a := 0) z (by omega)), if_pos z]; rfl
    · rw [if_neg (show ¬ (0 : Int32) < nI K by rw [show K = 0 by omega]; decide), if_neg z]; rfl
  obtain ⟨g1, e1⟩ : ∃ g1, g1 = uI h 201 6 (nI u) := ⟨_, rfl⟩
  have p1 : pI 12 h 201 6 (nI u) = some g1 := by rw [e1]; exact pI_n (kk201 hl)
  have f1 : Dfr SMj h g1 := by rw [e1]; exact Dfr.uI (by decide) (by unfold SMj; omega)
  have l1 := f1.lay hl
  obtain ⟨g2, e2, f2, v2⟩ := same_M l1
  have f2' : Dfr SMj h g2 := f1.trans (f2.mono (fun a k z => by unfold SMj; omega))
  have l2 := f2'.lay hl
  have ag2 : Ag FTalk h g2 := f2'.fr.ag (by unfold FTalk SMj SMw SMk; omega)
  have U1 := T1.ag hl.2.2.2.2.2.2 ag2
  have U2 := T2.ag hl.2.2.2.2.2.2 ag2
  have nxe : nx g2 = nx h := by funext t s k; exact f2'.I (by unfold SMj SMw SMk; omega)
  have ene : en g2 = en h := by funext t s; exact f2'.I (by unfold SMj SMw SMk; omega)
  have sx : sX g2 = sX h := by unfold sX; rw [nxe]
  have hxe : hX g2 = hX h := by unfold hX; rw [nxe]
  have og : OG g2 := fun z hz => Or.inr ⟨z, hz, (v2 z hz).2⟩
  have so : ∀ i k, k < 8 → sX h x i k = sO g2 x i k := by
    intro i k hk
    unfold sO sX
    rw [(v2 k hk).2, if_neg (fun z => m1_nI (by omega) z), show tN (nI k) = k from cl_nI (by omega), nxe]
  have ho : ∀ i k, k < 8 → hX h x i k = hO g2 x i k := by
    intro i k hk
    unfold hO hX
    rw [(v2 k hk).2, if_neg (fun z => m1_nI (by omega) z), show tN (nI k) = k from cl_nI (by omega), nxe]
  -- the walk
  have walk : OK ((if nI K = (0 : Int32) then
              bd2 (cv 12 g2 201 (f_M_walk g2 201 (nI x) (nI y) (1 : Int32))) fun x10 h11 =>
              some (x10, h11)
            else
              bd2 (cv 12 g2 201 (f_M_walkQueues g2 201 (nI x) (nI y) (nI K))) fun x8 h9 =>
              some (x8, h9)) : Option (Int32 × AH)) (fun q => q.1 = (if R.1.1.2 = true then 3 else nI R.2.1) ∧ Dfr SMw g2 q.2 ∧ (∃ cf PD, MK cf PD q.2 R.1) ∧ R.2.1 < 3 ∧ (¬ R.2.1 = 0 → hI q.2 201 47 = nI R.2.2 ∧ R.2.2 < R.1.1.1)) := by
    by_cases kz : K = 0
    · subst kz
      rw [if_pos (show nI 0 = 0 from rfl), cv_n (kk201 l2)]
      have hR2 : bfs 0 (sO g2 x) (hO g2 x) (sX g2 y) (hX g2 y) (en g2 x) (en g2 y) 4001 0 S01 0 0 = R := by
        rw [sx, hxe, ene, ← hR', bfs_c so ho]
      obtain ⟨⟨r, g3⟩, e3, c1, c2, c3, c4, c5⟩ := walkJ_M l2 og U1 U2 hx hy hR2
      dsimp only at c1 c2 c4
      rw [e3, bd2_v]
      exact OK.mk ⟨by rw [c5, if_neg (by decide)]; exact c1, c2.1, ⟨_, _, c2.2⟩, c3, c4⟩
    · rw [if_neg (nI_ne0 (by omega) (by omega)), cv_n (kk201 l2)]
      have hR2 : bfs K (sX g2 x) (hX g2 x) (sX g2 y) (hX g2 y) (en g2 x) (en g2 y) 4001 0 S01 0 0 = R := by rw [sx, hxe, ene]; exact hR'
      obtain ⟨⟨r, g3⟩, e3, c1, c2, c3, c4⟩ := queues_M l2 (by omega) k2 U1 U2 hx hy hR2
      dsimp only at c1 c2 c4
      rw [e3, bd2_v]
      exact OK.mk ⟨c1, c2.1, ⟨_, _, c2.2.1⟩, c3, c4⟩
  have as : nI t + nI (if 0 < K then 1 else 0) = nI u := by rw [nI_add, eu]
  simp only [gI_n (kk201 hl), c6, ob_v, x5, as, p1, cv_n (kk201 l1), e2]
  refine OK.bd2 (walk.mono (fun r ⟨c1, c2, ⟨cf, PD, c3⟩, c4, c5⟩ => ?_))
  obtain ⟨r, g3⟩ := r
  dsimp only at c1 c2 c3 c5 ⊢
  have l3 := c2.lay l2
  have f3 : Dfr SMj h g3 := f2'.trans (c2.mono (fun a k z => Or.inl z))
  obtain ⟨g4, e4⟩ : ∃ g4, g4 = uI g3 201 35 (nI R.1.1.1) := ⟨_, rfl⟩
  have p4 : pI 12 g3 201 35 (nI R.1.1.1) = some g4 := by rw [e4]; exact pI_n (kk201 l3)
  have f4 : Dfr SMj h g4 := by rw [e4]; exact f3.trans (Dfr.uI (by decide) (by unfold SMj; omega))
  have l4 := f4.lay hl
  obtain ⟨g5, e5⟩ : ∃ g5, g5 = uI g4 201 36 0 := ⟨_, rfl⟩
  have p5 : pI 12 g4 201 36 0 = some g5 := by rw [e5]; exact pI_n (kk201 l4)
  have f5 : Dfr SMj h g5 := by rw [e5]; exact f4.trans (Dfr.uI (by decide) (by unfold SMj; omega))
  have l5 := f5.lay hl
  have i6 : hI g5 201 6 = nI u := by
    rw [e5, hI_ne (by omega), e4, hI_ne (by omega), c2.I (by unfold SMw SMk; omega), f2.I (by omega), e1, hI_eq]
  have i35 : hI g5 201 35 = nI R.1.1.1 := by rw [e5, hI_ne (by omega), e4, hI_eq]
  have i36 : hI g5 201 36 = 0 := by rw [e5, hI_eq]
  simp only [gI_n (kk201 l3), c3.2.2.1, ob_v, p4, p5, in_M]
  by_cases s : R.1.1.2 = true
  · rw [if_pos s] at c1
    subst c1
    rw [if_pos (by decide)]
    exact OK.mk ⟨by rw [if_pos s], f5, by rw [← eu]; exact i6, i35, by rw [if_pos (Or.inl s)]; exact i36⟩
  · rw [if_neg s] at c1
    subst c1
    by_cases z : R.2.1 = 0
    · rw [z, if_pos (show (if nI 0 < (1 : Int32) then (0 : Int32) else if (2 : Int32) < nI 0 then 0 else 1) = 0 by decide)]
      exact OK.mk ⟨by rw [if_neg s], f5, by rw [← eu]; exact i6, i35, by rw [if_pos (Or.inr rfl)]; exact i36⟩
    · have n1 : ¬ nI R.2.1 < (1 : Int32) := nI_nlt (b := 1) (by omega) (by omega)
      have n2 : ¬ (2 : Int32) < nI R.2.1 := nI_nlt (a := 2) (by omega) (by decide)
      rw [if_neg n1, if_neg n2, if_neg (show ¬ (1 : Int32) = 0 by decide)]
      obtain ⟨w1, w2⟩ := c5 z
      have i47 : hI g5 201 47 = nI R.2.2 := by rw [e5, hI_ne (by omega), e4, hI_ne (by omega)]; exact w1
      have K5 : MK cf PD g5 R.1 := c3.fr (fun a k z => by rw [e5, hI_ne (by omega), e4, hI_ne (by omega)])
      obtain ⟨g6, e6, f6, L, L1, L2⟩ := traceTo_M l5 K5 w2
      simp only [gI_n (kk201 l5), i47, ob_v, cv_n (kk201 l5), e6]
      refine OK.mk ⟨by rw [if_neg s], f5.trans (f6.mono (fun a k z => by unfold SMj; omega)), ?_, ?_, ?_⟩
      · rw [f6.I (by omega), ← eu]; exact i6
      · rw [f6.I (by omega)]; exact i35
      · rw [if_neg (fun w => w.elim s z)]; exact ⟨L, L1, L2⟩
def SJo (a k : Nat) : Prop := SWj a k ∨ SMj a k ∨ (a = 4 ∧ k = 6)
theorem o_join (hl : Lay h) (rt : RTalks h tn ta ts) (rj : RJoin h) (rc : RCnt h) (x y z : Int32) : ∃ r h1 h2, f_C_join h 4 x y z = some (r, h1) ∧ f_M_join h1 201 x y z = some (r, h2) ∧ Lay h2 ∧ Fr SJo h h2 ∧ RJoin h2 ∧ RCnt h2 := by
  have h6 := rt.1
  obtain ⟨c1, c2⟩ := talkC hl rt
  have iM : ∀ g, f_M_in g z (0 : Int32) (2 : Int32) = some (if z < 0 then 0 else if z < nI 3 then 1 else 0) := fun g => in_Mk g z (n := 2) (by decide)
  by_cases hx : ∃ t, t < tn ∧ x = nI t
  · obtain ⟨x, hx, rfl⟩ := hx
    by_cases hy : ∃ t, t < tn ∧ y = nI t
    · obtain ⟨y, hy, rfl⟩ := hy
      rcases ix_cases z (n := 3) (by decide) with ⟨K, hK, rfl⟩ | z0 | ⟨z0, z1⟩
      · have n2 : ¬ (2 : Int32) < nI K := nI_nlt (a := 2) (by omega) (by decide)
        have iK : ∀ g, f_M_in g (nI K) (0 : Int32) (2 : Int32) = some 1 := fun g => by rw [iM, if_neg (nI_n0 K (by omega)), if_pos (nI_lt hK (by decide))]
        obtain ⟨⟨u, u20, ru1, ru2⟩, rc2, rc3⟩ := id rc
        by_cases full : 0 < K ∧ u = 20
        · obtain ⟨k0, rfl⟩ := full
          have kp : (0 : Int32) < nI K := nI_lt (a := 0) k0 (by omega)
          refine ⟨-103, h, h, ?_, ?_, hl, Fr.rfl', rj, rc⟩
          · simp only [f_C_join, cv_n (kk4 hl), (c1 x hx).1, (c1 y hy).1, ob_v, onl, nI_n0 K (by omega), n2, if_false, kp, if_true, gI_n (kk4 hl), ru1, show ¬ nI 20 < 20 by decide]
          · simp only [f_M_join, cv_n (kk201 hl), (c1 x hx).2, (c1 y hy).2, ob_v, show ¬ ((1 : Int32) = 0) by decide, if_false, iK, kp, if_true, gI_n (kk201 hl), ru2]
            rw [if_pos (show nI 20 = 20 from rfl)]
        · -- the walks
          have T1 := (rt.2.2.2 x hx).2
          have T2 := (rt.2.2.2 y hy).2
          obtain ⟨R, hR'⟩ : ∃ R, bfs K (sX h x) (hX h x) (sX h y) (hX h y) (en h x) (en h y) 4001 0 S01 0 0 = R := ⟨_, rfl⟩
          obtain ⟨g0, e0⟩ : ∃ g0, g0 = (if 0 < K then uI h 4 6 (nI (u + 1)) else h) := ⟨_, rfl⟩
          have f0 : Dfr (fun a k => a = 4 ∧ k = 6) h g0 := by
            rw [e0]; split
            · exact Dfr.uI (by decide) ⟨rfl, rfl⟩
            · exact Dfr.refl
          have v46 : hI g0 4 6 = nI (u + (if 0 < K then 1 else 0)) := by
            rw [e0]
            by_cases k0 : 0 < K
            · rw [if_pos k0, if_pos k0, hI_eq]
            · rw [if_neg k0, if_neg k0, Nat.add_zero]; exact ru1
          have l0 := f0.lay hl
          have ag0 : Ag FTalk h g0 := f0.fr.ag (by unfold FTalk; omega)
          have V1 := T1.ag hl.2.2.2.2.2.2 ag0
          have V2 := T2.ag hl.2.2.2.2.2.2 ag0
          have nx0 : nx g0 = nx h := by funext t s k; exact f0.I (by omega)
          have en0 : en g0 = en h := by funext t s; exact f0.I (by omega)
          have sx0 : sX g0 = sX h := by unfold sX; rw [nx0]
          have hx0 : hX g0 = hX h := by unfold hX; rw [nx0]
          have hR0 : bfs K (sX g0 x) (hX g0 x) (sX g0 y) (hX g0 y) (en g0 x) (en g0 y) 4001 0 S01 0 0 = R := by rw [sx0, hx0, en0]; exact hR'
          obtain ⟨⟨r, h1⟩, e1, q1, f1, l1, wk, f3, w3, wy⟩ := through_C l0 V1 V2 (show K ≤ 2 by omega) hR0
          dsimp only at q1 f1 l1 w3 wy
          have fr1 : Fr SJo h h1 := (f0.fr.mono (fun a k z => Or.inr (Or.inr z))).trans (f1.mono (fun a k z => Or.inl z))
          have CJ : f_C_join h 4 (nI x) (nI y) (nI K) = some (r, h1) := by
            by_cases k0 : 0 < K
            · have kp : (0 : Int32) < nI K := nI_lt (a := 0) k0 (by omega)
              have u19 : nI u < 20 := nI_lt (b := 20) (by omega) (by decide)
              rw [if_pos k0] at e0
              have p0 : pI 0 h 4 6 (nI (u + 1)) = some g0 := by rw [e0]; exact pI_n (c := 0) (kk4 hl)
              simp only [f_C_join, cv_n (kk4 hl), (c1 x hx).1, (c1 y hy).1, ob_v, onl, nI_n0 K (by omega), n2, if_false, kp, if_true, gI_n (kk4 hl), ru1, u19, nI_1, p0, gR_n (kk4 l0), LR l0, cv_n (c := 10) (kk92 l0), e1, bd2_v]
            · have kz : K = 0 := by omega
              rw [if_neg k0] at e0
              subst e0
              have kp : ¬ (0 : Int32) < nI K := by rw [kz]; decide
              simp only [f_C_join, cv_n (kk4 hl), (c1 x hx).1, (c1 y hy).1, ob_v, onl, nI_n0 K (by omega), n2, if_false, kp, gR_n (kk4 hl), LR hl, cv_n (c := 10) (kk92 hl), e1, bd2_v]
          have ag1 : Ag FTalk h h1 := fr1.ag (by unfold FTalk SJo SWj SWt SWk SMj SMw SMk; omega)
          have rt1 : RTalks h1 tn ta ts := rt.ag hl.2.2.2.2.2.2 ag1
          have W1 := (rt1.2.2.2 x hx).2
          have W2 := (rt1.2.2.2 y hy).2
          have nx1 : nx h1 = nx h := by funext t s k; exact fr1.I (by unfold SJo SWj SWt SWk SMj SMw SMk; omega)
          have en1 : en h1 = en h := by funext t s; exact fr1.I (by unfold SJo SWj SWt SWk SMj SMw SMk; omega)
          have sx1 : sX h1 = sX h := by unfold sX; rw [nx1]
          have hx1 : hX h1 = hX h := by unfold hX; rw [nx1]
          have hR1 : bfs K (sX h1 x) (hX h1 x) (sX h1 y) (hX h1 y) (en h1 x) (en h1 y) 4001 0 S01 0 0 = R := by rw [sx1, hx1, en1]; exact hR'
          have m6 : hI h1 201 6 = nI u := by rw [f1.I (by unfold SWj SWt SWk; omega), f0.I (by omega)]; exact ru2
          obtain ⟨⟨r2, h2⟩, e2, q2, f2, v6, v35, vw⟩ := join_M (t := u) l1 (show K ≤ 2 by omega) W1 W2 (show x < 6 by omega) (show y < 6 by omega) hR1 m6 (by omega)
          dsimp only at q2 f2 v6 v35 vw
          have er : r2 = r := by rw [q1, q2]
          subst er
          obtain ⟨d1, d2⟩ := talkC l1 rt1
          have l2 := f2.lay l1
          have MJ : f_M_join h1 201 (nI x) (nI y) (nI K) = some (r2, h2) := by
            by_cases k0 : 0 < K
            · have kp : (0 : Int32) < nI K := nI_lt (a := 0) k0 (by omega)
              have u20' : ¬ nI u = 20 := fun e => full ⟨k0, nI_inj (b := 20) (by omega) (by decide) e⟩
              have g6 : (gI 12 h1 201 6) = some (nI u) := by rw [gI_n (kk201 l1), m6]
              rw [← e2]
              simp only [f_M_join, cv_n (kk201 l1), (d1 x hx).2, (d1 y hy).2, ob_v, show ¬ ((1 : Int32) = 0) by decide, if_false, iK]
              rw [if_pos kp, g6, ob_v, if_neg u20']
            · have kp : ¬ (0 : Int32) < nI K := by rw [show K = 0 by omega]; decide
              rw [← e2]
              simp only [f_M_join, cv_n (kk201 l1), (d1 x hx).2, (d1 y hy).2, ob_v, show ¬ ((1 : Int32) = 0) by decide, if_false, iK]
              rw [if_neg kp]
          have fr2 : Fr SJo h h2 := fr1.trans (f2.fr.mono (fun a k z => Or.inr (Or.inl z)))
          refine ⟨r2, h1, h2, CJ, MJ, l2, fr2, ?_, ?_⟩
          · have o3 : hI h2 92 3 = nI R.1.1.1 := by rw [f2.I (by unfold SMj SMw SMk; omega)]; exact w3
            have o7 : hI h2 92 7 = hI h1 92 7 := f2.I (by unfold SMj SMw SMk; omega)
            have o97 : ∀ i, hI h2 97 i = hI h1 97 i := fun i => f2.I (by unfold SMj SMw SMk; omega)
            refine ⟨by rw [o3, v35], ?_⟩
            by_cases s : R.1.1.2 = true
            · rw [if_pos s] at wy
              rw [if_pos (Or.inl s)] at vw
              exact ⟨0, by decide, by rw [o7]; exact wy, vw, fun i hi => absurd hi (by omega)⟩
            · rw [if_neg s] at wy
              by_cases zf : R.2.1 = 0
              · rw [if_pos (Or.inr zf)] at vw
                exact ⟨0, by decide, by rw [o7]; exact wy.1 zf, vw, fun i hi => absurd hi (by omega)⟩
              · rw [if_neg (fun w => w.elim s zf)] at vw
                obtain ⟨wl, L, L1, L2⟩ := wy.2 zf
                obtain ⟨L', M1, M2⟩ := vw
                obtain ⟨eL, ea⟩ := L2.uni M2
                subst eL
                have w4 := wk.1
                have := L2.1
                exact ⟨L, by omega, by rw [o7]; exact L1, M1, fun i hi => by rw [o97]; exact ea i hi⟩
          · obtain ⟨v, v1, v2, v3⟩ := rc2
            obtain ⟨w, w1, w2, w3'⟩ := rc3
            have o : ∀ a k, (a = 4 ∧ (k = 7 ∨ k = 9)) ∨ (a = 201 ∧ (k = 7 ∨ k = 8)) → hI h2 a k = hI h a k := fun a k z => fr2.I (by unfold SJo SWj SWt SWk SMj SMw SMk; omega)
            refine ⟨⟨u + (if 0 < K then 1 else 0), ?_, ?_, v6⟩, ⟨v, v1, by rw [o 4 7 (by omega)]; exact v2, by rw [o 201 7 (by omega)]; exact v3⟩, ⟨w, w1, by rw [o 4 9 (by omega)]; exact w2, by rw [o 201 8 (by omega)]; exact w3'⟩⟩
            · by_cases k0 : 0 < K
              · rw [if_pos k0]; have : ¬ u = 20 := fun e => full ⟨k0, e⟩; omega
              · rw [if_neg k0]; omega
            · rw [f2.I (by unfold SMj SMw SMk; omega), f1.I (by unfold SWj SWt SWk; omega)]; exact v46
      · refine ⟨-102, h, h, ?_, ?_, hl, Fr.rfl', rj, rc⟩
        · simp only [f_C_join, cv_n (kk4 hl), (c1 x hx).1, (c1 y hy).1, ob_v, onl, z0, if_true]
        · simp only [f_M_join, cv_n (kk201 hl), (c1 x hx).2, (c1 y hy).2, ob_v, show ¬ ((1 : Int32) = 0) by decide, if_false, iM, z0, if_true]
      · have z2 : (2 : Int32) < z := (lt_nI (n := 2) (by decide) z).mpr z1
        refine ⟨-102, h, h, ?_, ?_, hl, Fr.rfl', rj, rc⟩
        · simp only [f_C_join, cv_n (kk4 hl), (c1 x hx).1, (c1 y hy).1, ob_v, onl, z0, z2, if_true, if_false]
        · simp only [f_M_join, cv_n (kk201 hl), (c1 x hx).2, (c1 y hy).2, ob_v, show ¬ ((1 : Int32) = 0) by decide, if_false, iM, z0, z1, if_true]
    · refine ⟨-101, h, h, ?_, ?_, hl, Fr.rfl', rj, rc⟩
      · simp only [f_C_join, cv_n (kk4 hl), (c1 x hx).1, (c2 y hy).1, ob_v, onl]
      · simp only [f_M_join, cv_n (kk201 hl), (c1 x hx).2, (c2 y hy).2, ob_v, show ¬ ((1 : Int32) = 0) by decide, if_false, if_true]
  · refine ⟨-101, h, h, ?_, ?_, hl, Fr.rfl', rj, rc⟩
    · by_cases hy : ∃ t, t < tn ∧ y = nI t
      · obtain ⟨y, hy, rfl⟩ := hy
        simp only [f_C_join, cv_n (kk4 hl), (c2 x hx).1, (c1 y hy).1, ob_v, onl]
      · simp only [f_C_join, cv_n (kk4 hl), (c2 x hx).1, (c2 y hy).1, ob_v, onl]
    · simp only [f_M_join, cv_n (kk201 hl), (c2 x hx).2, ob_v, if_true]
end OJ
