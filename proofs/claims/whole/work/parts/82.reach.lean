/-! the class comes to a place -/
def hfC (c : Nat) : Nat := (nI c * (-1640531535 : Int32)).toBitVec.toNat / 2 ^ 19
def SWk (a k : Nat) : Prop := (a = 92 ∧ (k = 3 ∨ k = 5)) ∨ (93 ≤ a ∧ a ≤ 96)
def CW (g : AH) (S : WSt) : Prop := WOK S ∧ hI g 92 3 = nI S.1.1 ∧ hI g 92 5 = bI S.1.2 ∧ (∀ x, x < S.1.1 → hI g 93 x = nI (cC (S.2.1 x))) ∧ (∀ x, 0 < x → x < S.1.1 → hI g 94 x = nI (S.2.2.1 x) ∧ hI g 95 x = nI (S.2.2.2 x)) ∧ HT 8192 (hI g 96) hfC (fun x => cC (S.2.1 x)) S.1.1
theorem hfC_lt (c : Nat) : hfC c < 8192 := by
  unfold hfC
  have := (nI c * (-1640531535 : Int32)).toBitVec.isLt
  omega
theorem hfC_v (c : Nat) : xushr (nI c * (-1640531535 : Int32)) (19 : Int32) = nI (hfC c) := by
  have e := pk_ushr (nI c * (-1640531535 : Int32)) 19 19 (by decide)
  apply Int32.toBitVec_inj.mp
  apply BitVec.eq_of_toNat_eq
  have lt := hfC_lt c
  rw [pk_tn (show hfC c < 2 ^ 32 by omega)]
  exact e
theorem nxt_s {N : Nat} (hN : 0 < N) (s e : Nat) : ((s + e) % N + 1) % N = (s + (e + 1)) % N := by
  rw [show s + (e + 1) = (s + e) + 1 by omega]
  exact Nat.mod_add_mod (s + e) N 1
section RC
variable {g : AH} {S : WSt}
theorem reach_C (hl : Lay g) (C : CW g S) {p : Pl} (hp : plOK p) {par act : Nat} {pi ai : Int32} (h1 : 0 < S.1.1 → (par < S.1.1 ∧ act < 18) ∧ pi = nI par ∧ ai = nI act) : OK (f_Wa_reach g 92 (nI (cC p)) pi ai) (fun g' => Dfr SWk g g' ∧ CW g' (rch S p par act)) := by
  obtain ⟨W, C1, C2, C3, C4, C5⟩ := id C
  obtain ⟨w1, w2, w3, w4, w5⟩ := id W
  have cl := cC_lt hp
  have step : ∀ e, ((nI ((hfC (cC p) + e) % 8192 + 1)) &&& (8191 : Int32)) = nI ((hfC (cC p) + (e + 1)) % 8192) := by
    intro e
    have : (hfC (cC p) + e) % 8192 < 8192 := Nat.mod_lt _ (by decide)
    rw [pk_andN (show (hfC (cC p) + e) % 8192 + 1 < 2 ^ 32 by omega) 13 (by decide), show (2 : Nat) ^ 13 = 8192 from rfl, nxt_s (by decide)]
  -- along slots that hold other places
  have walk : ∀ (k : Int32 → Option AH) (Q : AH → Prop) d e n, e + d < 8192 → d < n → HitAt 8192 (hI g 96) (fun x => cC (S.2.1 x)) S.1.1 (cC p) (hfC (cC p)) (e + d) → (∀ n, 0 < n → OK (f_Wa_reach_L12 g 92 (nI (cC p)) pi ai k n (nI ((hfC (cC p) + (e + d)) % 8192)) (nI (e + d))) Q) → OK (f_Wa_reach_L12 g 92 (nI (cC p)) pi ai k n (nI ((hfC (cC p) + e) % 8192)) (nI e)) Q := by
    intro k Q d
    induction d with
    | zero => intro e n h1 h2 _ hk; exact hk n h2
    | succ d ih =>
      intro e n h1 h2 hit hk
      obtain ⟨n, rfl⟩ : ∃ q, n = q + 1 := ⟨n - 1, by omega⟩
      obtain ⟨v, v1, v2, v3, v4⟩ := hit e (by omega)
      dsimp only at v4
      have sl : (hfC (cC p) + e) % 8192 < 8192 := Nat.mod_lt _ (by decide)
      have qe : nI e < 8192 := nI_lt (b := 8192) (by omega) (by decide)
      have nz : ¬ nI v = 0 := nI_ne0 (by omega) (by omega)
      have ne : ¬ nI (cC (S.2.1 (v - 1))) = nI (cC p) := fun z => v4 (nI_inj (by have := cC_lt (w2 (v - 1) (by omega)); omega) (by omega) z)
      simp only [f_Wa_reach_L12, qe, if_true, gR_n (c := 10) (kk92 hl), LR hl, Option.bind_some, rI_n (kk96 hl) sl (by decide), v3, nz, if_false, nI_sub1 (show 0 < v by omega), rI_n (kk93 hl) (show v - 1 < 4000 by omega) (by decide), C3 (v - 1) (by omega), ne, step, nI_1]
      refine ih (e + 1) n (by omega) (by omega) (by rw [show e + 1 + d = e + (d + 1) by omega]; exact hit) (fun n hn => ?_)
      rw [show e + 1 + d = e + (d + 1) by omega]
      exact hk n hn
  simp only [f_Wa_reach, hfC_v, Option.bind_some]
  have h0 : (hfC (cC p) + 0) % 8192 = hfC (cC p) := by rw [Nat.add_zero]; exact Nat.mod_eq_of_lt (hfC_lt _)
  have go := fun (k : Int32 → Option AH) (Q : AH → Prop) d => walk k Q d 0 FU
  rw [h0, nI_0] at go
  rcases C5.probe (show S.1.1 < 8192 by omega) (by omega) (cC p) with ⟨x, x1, x2, d, d1, d2, d3⟩ | ⟨no, d, d1, d2, d3⟩
  · -- it stands there
    refine go _ _ d (by omega) (by unfold FU; omega) (by rw [Nat.zero_add]; exact d3) (fun n hn => ?_)
    obtain ⟨n, rfl⟩ : ∃ q, n = q + 1 := ⟨n - 1, by omega⟩
    rw [Nat.zero_add]
    have sl : (hfC (cC p) + d) % 8192 < 8192 := Nat.mod_lt _ (by decide)
    have qe : nI d < 8192 := nI_lt (b := 8192) (by omega) (by decide)
    have nz : ¬ nI (x + 1) = 0 := nI_ne0 (by omega) (by omega)
    have e3 : nI (cC (S.2.1 x)) = nI (cC p) := by rw [x2]
    have pr : nI (x + 1) - 1 = nI x := nI_pred x
    simp only [f_Wa_reach_L12, qe, if_true, gR_n (c := 10) (kk92 hl), LR hl, Option.bind_some, rI_n (kk96 hl) sl (by decide), d2, nz, if_false, pr, rI_n (kk93 hl) (show x < 4000 by omega) (by decide), C3 x x1, e3]
    refine OK.mk ⟨Dfr.refl, ?_⟩
    have ip : S.2.1 x = p := cC_inj (w2 x x1) hp x2
    unfold rch
    rw [if_pos (inL_iff.mpr ⟨x, x1, ip⟩)]
    exact C
  · refine go _ _ d (by omega) (by unfold FU; omega) (by rw [Nat.zero_add]; exact d3) (fun n hn => ?_)
    obtain ⟨n, rfl⟩ : ∃ q, n = q + 1 := ⟨n - 1, by omega⟩
    rw [Nat.zero_add]
    have sl : (hfC (cC p) + d) % 8192 < 8192 := Nat.mod_lt _ (by decide)
    have qe : nI d < 8192 := nI_lt (b := 8192) (by omega) (by decide)
    have nin : ¬ inL S p = true := fun z => by
      obtain ⟨x, x1, x2⟩ := inL_iff.mp z
      exact no x x1 (by rw [x2])
    simp only [f_Wa_reach_L12, qe, if_true, gR_n (c := 10) (kk92 hl), LR hl, Option.bind_some, rI_n (kk96 hl) sl (by decide), d2, gI_n (c := 10) (kk92 hl), C1]
    have WR' := wok_rch W hp (fun z => (h1 z).1)
    unfold rch at WR' ⊢
    rw [if_neg nin] at WR' ⊢
    by_cases r : S.1.1 < 4000
    · rw [if_pos r] at WR' ⊢
      have r' : nI S.1.1 < 4000 := nI_lt (b := 4000) r (by decide)
      obtain ⟨g1, e1⟩ : ∃ g1, g1 = uI g 93 S.1.1 (nI (cC p)) := ⟨_, rfl⟩
      have f1 : Dfr SWk g g1 := by rw [e1]; exact Dfr.uI (by decide) (by unfold SWk; omega)
      have l1 := f1.lay hl
      have p1 : wI g 93 (nI S.1.1) (nI (cC p)) = some g1 := by rw [e1]; exact wI_n (by decide) (kk93 hl) r (by decide)
      obtain ⟨g2, e2⟩ : ∃ g2, g2 = uI g1 94 S.1.1 pi := ⟨_, rfl⟩
      have f2 : Dfr SWk g g2 := by rw [e2]; exact f1.trans (Dfr.uI (by decide) (by unfold SWk; omega))
      have l2 := f2.lay hl
      have p2 : wI g1 94 (nI S.1.1) pi = some g2 := by rw [e2]; exact wI_n (by decide) (kk94 l1) r (by decide)
      obtain ⟨g3, e3⟩ : ∃ g3, g3 = uI g2 95 S.1.1 ai := ⟨_, rfl⟩
      have f3 : Dfr SWk g g3 := by rw [e3]; exact f2.trans (Dfr.uI (by decide) (by unfold SWk; omega))
      have l3 := f3.lay hl
      have p3 : wI g2 95 (nI S.1.1) ai = some g3 := by rw [e3]; exact wI_n (by decide) (kk95 l2) r (by decide)
      obtain ⟨g4, e4⟩ : ∃ g4, g4 = uI g3 92 3 (nI (S.1.1 + 1)) := ⟨_, rfl⟩
      have f4 : Dfr SWk g g4 := by rw [e4]; exact f3.trans (Dfr.uI (by decide) (by unfold SWk; omega))
      have l4 := f4.lay hl
      have p4 : pI 10 g3 92 3 (nI (S.1.1 + 1)) = some g4 := by rw [e4]; exact pI_n (c := 10) (kk92 l3)
      obtain ⟨g5, e5⟩ : ∃ g5, g5 = uI g4 96 ((hfC (cC p) + d) % 8192) (nI (S.1.1 + 1)) := ⟨_, rfl⟩
      have f5 : Dfr SWk g g5 := by rw [e5]; exact f4.trans (Dfr.uI (by decide) (by unfold SWk; omega))
      have p5 : wI g4 96 (nI ((hfC (cC p) + d) % 8192)) (nI (S.1.1 + 1)) = some g5 := by rw [e5]; exact wI_n (by decide) (kk96 l4) sl (by decide)
      have i1 : hI g1 92 3 = nI S.1.1 := by rw [e1, hI_ne (by omega)]; exact C1
      have i2 : hI g2 92 3 = nI S.1.1 := by rw [e2, hI_ne (by omega)]; exact i1
      have i3 : hI g3 92 3 = nI S.1.1 := by rw [e3, hI_ne (by omega)]; exact i2
      have i4 : hI g4 92 3 = nI (S.1.1 + 1) := by rw [e4, hI_eq]
      simp only [r', if_true, p1, Option.bind_some, gR_n (c := 10) (kk92 l1), LR l1, gI_n (c := 10) (kk92 l1), i1, p2, gR_n (c := 10) (kk92 l2), LR l2, gI_n (c := 10) (kk92 l2), i2, p3, gI_n (c := 10) (kk92 l3), i3, nI_1, p4, gR_n (c := 10) (kk92 l4), LR l4, gI_n (c := 10) (kk92 l4), i4, p5]
      refine OK.mk ⟨f5, WR', ?_, ?_, fun x hx => ?_, fun x h0 hx => ?_, ?_⟩
      · rw [e5, hI_ne (by omega)]; exact i4
      · rw [e5, hI_ne (by omega), e4, hI_ne (by omega), e3, hI_ne (by omega), e2, hI_ne (by omega), e1, hI_ne (by omega)]; exact C2
      · dsimp only at hx ⊢
        rw [e5, hI_ne (by omega), e4, hI_ne (by omega), e3, hI_ne (by omega), e2, hI_ne (by omega), e1]
        by_cases z : x = S.1.1
        · rw [z, hI_eq, if_pos rfl]
        · rw [hI_ne (by omega), if_neg z]; exact C3 x (by omega)
      · dsimp only at hx ⊢
        rw [e5, hI_ne (by omega), hI_ne (by omega), e4, hI_ne (by omega), hI_ne (by omega), e3, hI_ne (by omega)]
        by_cases z : x = S.1.1
        · have := h1 (by omega)
          rw [z, hI_eq, if_pos rfl, if_pos rfl, e2, hI_eq]
          exact this.2
        · rw [hI_ne (by omega), e2, hI_ne (by omega), hI_ne (by omega), e1, hI_ne (by omega), hI_ne (by omega), if_neg z, if_neg z]
          exact C4 x h0 (by omega)
      · refine C5.ins (by omega) d1 d2 d3 (fun s => ?_) (fun x hx => ?_) ?_
        · rw [e5]
          by_cases z : s = (hfC (cC p) + d) % 8192
          · rw [z, hI_eq, if_pos rfl]
          · rw [hI_ne (by omega), if_neg z, e4, hI_ne (by omega), e3, hI_ne (by omega), e2, hI_ne (by omega), e1, hI_ne (by omega)]
        · dsimp only; rw [if_neg (by omega)]
        · dsimp only; rw [if_pos rfl]
    · rw [if_neg r] at WR' ⊢
      have r' : ¬ nI S.1.1 < 4000 := nI_nlt (b := 4000) (by omega) (by omega)
      obtain ⟨g1, e1⟩ : ∃ g1, g1 = uI g 92 5 1 := ⟨_, rfl⟩
      have f1 : Dfr SWk g g1 := by rw [e1]; exact Dfr.uI (by decide) (by unfold SWk; omega)
      have p1 : pZ 10 g 92 5 1 = some g1 := by rw [e1]; exact pZ_n (c := 10) (kk92 hl) (Or.inr rfl)
      simp only [r', if_false, p1, Option.bind_some]
      refine OK.mk ⟨f1, WR', ?_, ?_, fun x hx => ?_, fun x h0 hx => ?_, ?_⟩
      · rw [e1, hI_ne (by omega)]; exact C1
      · rw [e1, hI_eq]; rfl
      · rw [e1, hI_ne (by omega)]; exact C3 x hx
      · rw [e1, hI_ne (by omega), hI_ne (by omega)]; exact C4 x h0 hx
      · have : hI g1 96 = hI g 96 := by funext s; rw [e1, hI_ne (by omega)]
        rw [this]; exact C5
end RC
