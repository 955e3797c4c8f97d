/-! adapters(), adapter() -/
section OB
variable {h : AH} {tn : Nat} {ta ts : Nat → Nat}
theorem rTab_SAc : ∀ q ∈ rTab, ¬ SAc q.1 q.2.1 := by
  intro q hq z
  rcases z with z | z
  · exact rTab_SAf q hq z
  · have : ∀ q ∈ rTab, ¬ (q.1 = 4 ∧ q.2.1 = 7) := by decide +kernel
    exact this q hq z
/-- both have found all adapters of x to y -/
theorem both_A {x y u : Nat} (hl : Lay h) (rt : RTalks h tn ta ts) (ra : RAd h tn ta ts) (v47 : hI h 4 7 = nI u) (v7 : hI h 201 7 = nI u) (u20 : u < 20) (hx : x < tn) (hy : y < tn) (w5 : cnS (fun z => (usg h x (ts x) 0 ||| usg h x (ts x) 1).testBit z) 8 ≤ 5) (W : Int32) {q : Nat} (hq : q < 8) : ∃ (w : Nat) (ms : Nat → Nat) (L : List Nat) (h1 h3 h2 : AH), f_C_adapt h 4 (nI x) (nI y) = some h1 ∧ Lay h1 ∧ hI h1 100 1 = nI L.length ∧ L.length ≤ 6720 ∧ ((∀ j, j < L.length → f_Ad_becomes h1 100 (nI j) (nI q) = some (bB ms (dg w (L.getD j 0)) w q)) ∧ ∀ i : Int32, (¬ ∃ j, j < L.length ∧ i = nI j) → f_Ad_becomes h1 100 i (nI q) = some (-1)) ∧ RTalks h1 tn ta ts ∧ hI h1 201 7 = nI u ∧ (∀ t n k, usg h1 t n k = usg h t n k) ∧ pI 12 h1 201 7 (nI (u + 1)) = some h3 ∧ Lay h3 ∧ f_M_seekAdapters h3 201 (nI x) (nI y) W (nI q) = some (nI L.length, h2) ∧ Lay h2 ∧ GotR W (hI h2 201 50) w ms q L ∧ Fr SAp h h2 ∧ hI h2 4 7 = nI (u + 1) ∧ hI h2 201 7 = nI (u + 1) ∧ RAd h2 tn ta ts := by
  have hm := hl.2.2.2.2.2.2
  have t6 := rt.1
  obtain ⟨w, ms, G, h1, e1, l1, f1, v1, M, w5', HG, C1⟩ := adapt_C hl rt ra v47 hx hy w5
  have ag1 : Ag FTalk h h1 := f1.ag (by unfold FTalk SAc SAf SAd SAg; omega)
  have rt1 := rt.ag hm ag1
  have nx1 : nx h1 = nx h := by funext t s k; exact f1.I (by unfold SAc SAf SAd SAg; omega)
  have u1 : hI h1 201 7 = nI u := by rw [f1.I (by unfold SAc SAf SAd SAg; omega)]; exact v7
  obtain ⟨h3, e3⟩ : ∃ h3, h3 = uI h1 201 7 (nI (u + 1)) := ⟨_, rfl⟩
  have f3 : Dfr (fun a k => a = 201 ∧ k = 7) h1 h3 := by rw [e3]; exact Dfr.uI (by decide) ⟨rfl, rfl⟩
  have l3 := f3.lay l1
  have p3 : pI 12 h1 201 7 (nI (u + 1)) = some h3 := by rw [e3]; exact pI_n (kk201 l1)
  have F3 : Fr SAp h h3 := (f1.mono (fun a k z => Or.inl z)).trans (f3.fr.mono (fun a k z => Or.inr (Or.inr z)))
  have ag3 : Ag FTalk h h3 := F3.ag (by unfold FTalk SAp SAc SAf SAd SAg SSk SMw SMk; omega)
  have rt3 := rt.ag hm ag3
  have nx3 : nx h3 = nx h := by funext t s k; exact F3.I (by unfold SAp SAc SAf SAd SAg SSk SMw SMk; omega)
  have en3 : en h3 = en h := by funext t s; exact F3.I (by unfold SAp SAc SAf SAd SAg SSk SMw SMk; omega)
  have sx3 : sX h3 = sX h := by unfold sX; rw [nx3]
  have hx3 : hX h3 = hX h := by unfold hX; rw [nx3]
  obtain ⟨_, T1⟩ := rt3.2.2.2 x hx
  obtain ⟨_, T2⟩ := rt3.2.2.2 y hy
  have M3 : MsOK (usg h3 x (ts x) 0 ||| usg h3 x (ts x) 1) w ms := by rw [usg_cong nx3, usg_cong nx3]; exact M
  have HG3 : GdC h3 x y w ms G := by unfold GdC; rw [sx3, hx3, en3]; exact HG
  obtain ⟨⟨r, h2⟩, e2, f2, q2, R2⟩ := seek_M l3 T1 T2 (by omega) (by omega) M3 w5' HG3 W hq
  dsimp only at f2 q2 R2
  subst q2
  have F2 : Fr SAp h h2 := F3.trans (f2.fr.mono (fun a k z => Or.inr (Or.inl z)))
  have bl : (gds G (8 ^ w)).length ≤ 6720 := gds_6720 w5' (fun c hc z => ((HG c hc).mp z).1)
  have nx2 : nx h2 = nx h := by funext t s k; exact F2.I (by unfold SAp SAc SAf SAd SAg SSk SMw SMk; omega)
  have en2 : en h2 = en h := by funext t s; exact F2.I (by unfold SAp SAc SAf SAd SAg SSk SMw SMk; omega)
  have sx2 : sX h2 = sX h := by unfold sX; rw [nx2]
  have hx2 : hX h2 = hX h := by unfold hX; rw [nx2]
  have o21 : ∀ a k, ((a = 100) ∨ a = 101 ∨ a = 102) → hI h2 a k = hI h1 a k := fun a k z => by rw [f2.I (by unfold SSk SMw SMk; omega), f3.I (by omega)]
  have C2 : Cch h2 (ta x) (ta y) w ms G := C1.fr (fun k => by rw [f2.R, f3.R]) (o21 _ _ (by omega)) (o21 _ _ (by omega)) (fun k => o21 _ _ (by omega)) (fun k => o21 _ _ (by omega))
  refine ⟨w, ms, gds G (8 ^ w), h1, h3, h2, e1, l1, C1.2.2.2.2.1, bl, becomes_C l1 C1 w5' (fun k k' c d e => M.inj c d e) bl hq, rt1, u1, fun t n k => usg_cong nx1 t n k, p3, l3, e2, f2.lay l3, R2, F2, ?_, ?_, ?_⟩
  · rw [f2.I (by unfold SSk SMw SMk; omega), f3.I (by omega)]; exact v1
  · rw [f2.I (by unfold SSk SMw SMk; omega), e3, hI_eq]
  · refine ⟨ra.1, Or.inr ⟨x, y, hx, hy, C2.1, C2.2.1, w, ms, G, ?_, w5', ?_, C2⟩⟩
    · rw [usg_cong nx2, usg_cong nx2]; exact M
    · unfold GdC; rw [sx2, hx2, en2]; exact HG
theorem cnt_A {h2 : AH} {u : Nat} (rc : RCnt h) (f : Fr SAp h h2) (u20 : u < 20) (v : hI h2 4 7 = nI (u + 1)) (v' : hI h2 201 7 = nI (u + 1)) : RCnt h2 := by
  obtain ⟨⟨a, a1, a2, a3⟩, _, ⟨b, b1, b2, b3⟩⟩ := rc
  have o : ∀ c k, (c = 4 ∧ (k = 6 ∨ k = 9)) ∨ (c = 201 ∧ (k = 6 ∨ k = 8)) → hI h2 c k = hI h c k := fun c k z => f.I (by unfold SAp SAc SAf SAd SAg SSk SMw SMk; omega)
  exact ⟨⟨a, a1, by rw [o 4 6 (by omega)]; exact a2, by rw [o 201 6 (by omega)]; exact a3⟩, ⟨u + 1, by omega, v, v'⟩, ⟨b, b1, by rw [o 4 9 (by omega)]; exact b2, by rw [o 201 8 (by omega)]; exact b3⟩⟩
theorem o_adapters (hl : Lay h) (rt : RTalks h tn ta ts) (rc : RCnt h) (ra : RAd h tn ta ts) (X Y : Int32) : ∃ r h1 h2, f_C_adapters h 4 X Y = some (r, h1) ∧ f_M_adapters h1 201 X Y = some (r, h2) ∧ Lay h2 ∧ Fr SAp h h2 ∧ RCnt h2 ∧ RAd h2 tn ta ts := by
  obtain ⟨c1, c2⟩ := talkC hl rt
  obtain ⟨_, ⟨u, u20, v47, v7⟩, _⟩ := id rc
  by_cases hx : ∃ t, t < tn ∧ X = nI t
  · obtain ⟨x, hx, rfl⟩ := hx
    by_cases hy : ∃ t, t < tn ∧ Y = nI t
    · obtain ⟨y, hy, rfl⟩ := hy
      have rC := refuse_C hl rt v47 hx hy (0 : Int32)
      have rM := barred_M hl rt v7 hx hy
      have c8 := cnS_le (fun z => (usg h x (ts x) 0 ||| usg h x (ts x) 1).testBit z) 8
      rw [if_neg (show ¬ (if (0 : Int32) < 0 then (0 : Int32) else if (0 : Int32) < nI 8 then 1 else 0) = 0 by decide)] at rC
      by_cases w5 : cnS (fun z => (usg h x (ts x) 0 ||| usg h x (ts x) 1).testBit z) 8 ≤ 5
      · have n5 : ¬ (5 : Int32) < nI (cnS (fun z => (usg h x (ts x) 0 ||| usg h x (ts x) 1).testBit z) 8) := nI_nlt (a := 5) w5 (by omega)
        rw [if_neg n5] at rC rM
        by_cases uu : u = 20
        · have e1 : ¬ nI u < 20 := by rw [uu]; decide
          have e2 : nI u = 20 := by rw [uu]; rfl
          rw [if_neg e1] at rC
          rw [if_pos e2] at rM
          refine ⟨-103, h, h, ?_, ?_, hl, Fr.rfl', rc, ra⟩
          · rw [f_C_adapters, cv_n (kk4 hl), rC, ob_v, if_neg (by decide)]
          · rw [f_M_adapters, cv_n (kk201 hl), rM, ob_v, if_neg (by decide)]
        · have e1 : nI u < 20 := nI_lt (b := 20) (by omega) (by decide)
          have e2 : ¬ nI u = 20 := fun z => uu (nI_inj (b := 20) (by omega) (by decide) z)
          rw [if_pos e1] at rC
          obtain ⟨w, ms, L, h1, h3, h2, a1, a2, a3, a4, a5, a6, a7, a8, a9, a10, a11, a12, a13, a14, a15, a16, a17⟩ := both_A hl rt ra v47 v7 (show u < 20 by omega) hx hy w5 (-1) (show 0 < 8 by decide)
          have rM1 := barred_M a2 a6 a7 hx hy
          rw [a8, a8, if_neg n5, if_neg e2] at rM1
          refine ⟨nI L.length, h1, h2, ?_, ?_, a12, a14, cnt_A rc a14 (by omega) a15 a16, a17⟩
          · rw [f_C_adapters, cv_n (kk4 hl), rC, ob_v, if_pos rfl, cv_n (kk4 hl), a1, ob_v, gR_n (c := 0) (kk4 a2), ob_v]
            simp only [LR a2, ob_v]
            rw [gI_n (c := 1) (kk100 a2), ob_v, a3]
          · have a11' : f_M_seekAdapters h3 201 (nI x) (nI y) (-1 : Int32) (0 : Int32) = some (nI L.length, h2) := a11
            rw [f_M_adapters, cv_n (kk201 a2), rM1, ob_v, if_pos rfl, gI_n (kk201 a2), ob_v, a7, nI_1, a9, ob_v, cv_n (kk201 a10), a11', bd2_v]
      · have y5 : (5 : Int32) < nI (cnS (fun z => (usg h x (ts x) 0 ||| usg h x (ts x) 1).testBit z) 8) := nI_lt (a := 5) (by omega) (by omega)
        rw [if_pos y5] at rC rM
        refine ⟨-102, h, h, ?_, ?_, hl, Fr.rfl', rc, ra⟩
        · rw [f_C_adapters, cv_n (kk4 hl), rC, ob_v, if_neg (by decide)]
        · rw [f_M_adapters, cv_n (kk201 hl), rM, ob_v, if_neg (by decide)]
    · refine ⟨-101, h, h, ?_, ?_, hl, Fr.rfl', rc, ra⟩
      · simp only [f_C_adapters, f_C_adaptingRefusal, cv_n (kk4 hl), (c1 x hx).1, (c2 Y hy).1, ob_v, onl]
        rw [if_neg (by decide)]
      · simp only [f_M_adapters, f_M_barred, cv_n (kk201 hl), (c1 x hx).2, (c2 Y hy).2, ob_v, show ¬ ((1 : Int32) = 0) by decide, if_false, if_true]
        rw [if_neg (by decide)]
  · refine ⟨-101, h, h, ?_, ?_, hl, Fr.rfl', rc, ra⟩
    · simp only [f_C_adapters, f_C_adaptingRefusal, cv_n (kk4 hl), (c2 X hx).1, ob_v, onl]
      rw [if_neg (by decide)]
    · simp only [f_M_adapters, f_M_barred, cv_n (kk201 hl), (c2 X hx).2, ob_v, if_true]
      rw [if_neg (by decide)]
theorem o_adapter (hl : Lay h) (rt : RTalks h tn ta ts) (rc : RCnt h) (ra : RAd h tn ta ts) (X Y W Z : Int32) : ∃ r h1 h2, f_C_adapter h 4 X Y W Z = some (r, h1) ∧ f_M_adapter h1 201 X Y W Z = some (r, h2) ∧ Lay h2 ∧ Fr SAp h h2 ∧ RCnt h2 ∧ RAd h2 tn ta ts := by
  obtain ⟨c1, c2⟩ := talkC hl rt
  obtain ⟨_, ⟨u, u20, v47, v7⟩, _⟩ := id rc
  have iZ : f_M_in h Z (0 : Int32) (7 : Int32) = some (if Z < 0 then 0 else if Z < nI 8 then 1 else 0) := in_Mk h Z (n := 7) (by decide)
  by_cases hx : ∃ t, t < tn ∧ X = nI t
  · obtain ⟨x, hx, rfl⟩ := hx
    by_cases hy : ∃ t, t < tn ∧ Y = nI t
    · obtain ⟨y, hy, rfl⟩ := hy
      have rC := refuse_C hl rt v47 hx hy Z
      have rM := barred_M hl rt v7 hx hy
      have c8 := cnS_le (fun z => (usg h x (ts x) 0 ||| usg h x (ts x) 1).testBit z) 8
      have pre : ∀ g, Lay g → RTalks g tn ta ts → ∀ o, f_M_adapter g 201 (nI x) (nI y) W Z = o ↔ ((if (if Z < 0 then (0 : Int32) else if Z < nI 8 then 1 else 0) = (0 : Int32) then some (-102 : Int32) else (f_M_barred g 201 (nI x) (nI y)).bind fun x4 => some x4).bind fun x5 =>
      if x5 = (0 : Int32) then
        (gI 12 g 201 7).bind fun x6 =>
        (pI 12 g 201 7 (x6 + (1 : Int32))).bind fun h7 =>
        bd2 (cv 12 h7 201 (f_M_seekAdapters h7 201 (nI x) (nI y) W Z)) fun x8 h9 =>
        if W < (0 : Int32) then
          some ((-1 : Int32), h9)
        else
          (gI 12 h9 201 50).bind fun x10 =>
          some (x10, h9)
      else
        some (x5, g)) = o := by
        intro g lg rtg o
        obtain ⟨d1, d2⟩ := talkC lg rtg
        have iZ : f_M_in g Z (0 : Int32) (7 : Int32) = some (if Z < 0 then 0 else if Z < nI 8 then 1 else 0) := in_Mk g Z (n := 7) (by decide)
        simp only [f_M_adapter, cv_n (kk201 lg), (d1 x hx).2, (d1 y hy).2, ob_v, show ¬ ((1 : Int32) = 0) by decide, if_false, iZ]
      have refuse : ∀ v : Int32, ¬ v = 0 → f_C_adaptingRefusal h 4 (nI x) (nI y) Z = some v → ((if (if Z < 0 then (0 : Int32) else if Z < nI 8 then 1 else 0) = (0 : Int32) then some (-102 : Int32) else (f_M_barred h 201 (nI x) (nI y)).bind fun x4 => some x4) = some v) → ∃ r h1 h2, f_C_adapter h 4 (nI x) (nI y) W Z = some (r, h1) ∧ f_M_adapter h1 201 (nI x) (nI y) W Z = some (r, h2) ∧ Lay h2 ∧ Fr SAp h h2 ∧ RCnt h2 ∧ RAd h2 tn ta ts := by
        intro v nv q1 q2
        refine ⟨v, h, h, ?_, (pre h hl rt _).mpr ?_, hl, Fr.rfl', rc, ra⟩
        · rw [f_C_adapter, cv_n (kk4 hl), q1, ob_v, if_neg nv]
        · rw [q2, ob_v, if_neg nv]
      by_cases w5 : cnS (fun z => (usg h x (ts x) 0 ||| usg h x (ts x) 1).testBit z) 8 ≤ 5
      · have n5 : ¬ (5 : Int32) < nI (cnS (fun z => (usg h x (ts x) 0 ||| usg h x (ts x) 1).testBit z) 8) := nI_nlt (a := 5) w5 (by omega)
        rw [if_neg n5] at rC rM
        by_cases z0 : (if Z < 0 then (0 : Int32) else if Z < nI 8 then 1 else 0) = 0
        · rw [if_pos z0] at rC
          exact refuse (-102) (by decide) rC (by rw [if_pos z0])
        · have hz : ∃ q, q < 8 ∧ Z = nI q := by
            rcases ix_cases Z (show 8 < 2 ^ 31 by decide) with h1 | h0 | ⟨h0, h1⟩
            · exact h1
            · rw [if_pos h0] at z0; exact absurd rfl z0
            · rw [if_neg h0, if_neg h1] at z0; exact absurd rfl z0
          rw [if_neg z0] at rC
          by_cases uu : u = 20
          · have e1 : ¬ nI u < 20 := by rw [uu]; decide
            have e2 : nI u = 20 := by rw [uu]; rfl
            rw [if_neg e1] at rC
            rw [if_pos e2] at rM
            exact refuse (-103) (by decide) rC (by rw [if_neg z0, rM, ob_v])
          · have e1 : nI u < 20 := nI_lt (b := 20) (by omega) (by decide)
            have e2 : ¬ nI u = 20 := fun z => uu (nI_inj (b := 20) (by omega) (by decide) z)
            rw [if_pos e1] at rC
            obtain ⟨q, hq, eZ⟩ := hz
            obtain ⟨w, ms, L, h1, h3, h2, a1, a2, a3, a4, a5, a6, a7, a8, a9, a10, a11, a12, a13, a14, a15, a16, a17⟩ := both_A hl rt ra v47 v7 (show u < 20 by omega) hx hy w5 W hq
            have rM1 := barred_M a2 a6 a7 hx hy
            rw [a8, a8, if_neg n5, if_neg e2] at rM1
            rw [← eZ] at a5 a11
            obtain ⟨r, e3, e4⟩ : ∃ r, f_Ad_becomes h1 100 W Z = some r ∧ (if W < (0 : Int32) then some ((-1 : Int32), h2) else (gI 12 h2 201 50).bind fun x10 => some (x10, h2)) = some (r, h2) := by
              by_cases ex : ∃ j, j < L.length ∧ W = nI j
              · obtain ⟨j, j1, j2⟩ := ex
                refine ⟨bB ms (dg w (L.getD j 0)) w q, by rw [j2]; exact a5.1 j j1, ?_⟩
                rw [if_neg (by rw [j2]; exact nI_n0 j (by omega)), gI_n (kk201 a12), ob_v, a13.1 j j1 j2]
              · refine ⟨-1, a5.2 W ex, ?_⟩
                by_cases w0 : W < 0
                · rw [if_pos w0]
                · rw [if_neg w0, gI_n (kk201 a12), ob_v, a13.2 ex]
            refine ⟨r, h1, h2, ?_, (pre h1 a2 a6 _).mpr ?_, a12, a14, cnt_A rc a14 (by omega) a15 a16, a17⟩
            · rw [f_C_adapter, cv_n (kk4 hl), rC, ob_v, if_pos rfl, cv_n (kk4 hl), a1, ob_v, gR_n (c := 0) (kk4 a2), ob_v]
              simp only [LR a2, ob_v]
              rw [cv_n (c := 1) (kk100 a2), e3, ob_v]
            · rw [if_neg z0, rM1, ob_v, ob_v, if_pos rfl, gI_n (kk201 a2), ob_v, a7, nI_1, a9, ob_v, cv_n (kk201 a10), a11, bd2_v]
              exact e4
      · have y5 : (5 : Int32) < nI (cnS (fun z => (usg h x (ts x) 0 ||| usg h x (ts x) 1).testBit z) 8) := nI_lt (a := 5) (by omega) (by omega)
        rw [if_pos y5] at rC rM
        refine refuse (-102) (by decide) rC ?_
        rw [rM, ob_v]
        exact ite_self _
    · refine ⟨-101, h, h, ?_, ?_, hl, Fr.rfl', rc, ra⟩
      · simp only [f_C_adapter, f_C_adaptingRefusal, cv_n (kk4 hl), (c1 x hx).1, (c2 Y hy).1, ob_v, onl]
        rw [if_neg (by decide)]
      · simp only [f_M_adapter, cv_n (kk201 hl), (c1 x hx).2, (c2 Y hy).2, ob_v, show ¬ ((1 : Int32) = 0) by decide, if_false, if_true]
  · refine ⟨-101, h, h, ?_, ?_, hl, Fr.rfl', rc, ra⟩
    · simp only [f_C_adapter, f_C_adaptingRefusal, cv_n (kk4 hl), (c2 X hx).1, ob_v, onl]
      rw [if_neg (by decide)]
    · simp only [f_M_adapter, cv_n (kk201 hl), (c2 X hx).2, ob_v, if_true]
end OB
