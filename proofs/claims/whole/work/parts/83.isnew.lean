/-! the reference comes to a place -/
def hfM (c : Nat) : Nat := (nI c * (40503 : Int32)).toBitVec.toNat / 2 ^ 4 % 16384
def SMk (a k : Nat) : Prop := (a = 201 ∧ k = 38) ∨ (225 ≤ a ∧ a ≤ 228)
/-- a way to number places: unlike ones have unlike numbers -/
def CF (cf : Pl → Nat) (PD : Pl → Prop) : Prop := (∀ p q, PD p → PD q → cf p = cf q → p = q) ∧ ∀ p, PD p → cf p < 2 ^ 22 ∧ plOK p
def MK (cf : Pl → Nat) (PD : Pl → Prop) (g : AH) (S : WSt) : Prop := WOK S ∧ (∀ x, x < S.1.1 → PD (S.2.1 x)) ∧ hI g 201 38 = nI S.1.1 ∧ (∀ x, x < S.1.1 → hI g 225 x = nI (cf (S.2.1 x))) ∧ (∀ x, 0 < x → x < S.1.1 → hI g 226 x = nI (S.2.2.1 x) ∧ hI g 227 x = nI (S.2.2.2 x)) ∧ HT 16384 (hI g 228) hfM (fun x => cf (S.2.1 x)) S.1.1
theorem hfM_lt (c : Nat) : hfM c < 16384 := Nat.mod_lt _ (by decide)
theorem hfM_v (c : Nat) : (xushr (nI c * (40503 : Int32)) (4 : Int32)) - (xushr (nI c * (40503 : Int32)) (4 : Int32)) / (16384 : Int32) * (16384 : Int32) = nI (hfM c) := by
  have lt := (nI c * (40503 : Int32)).toBitVec.isLt
  have e : xushr (nI c * (40503 : Int32)) (4 : Int32) = nI ((nI c * (40503 : Int32)).toBitVec.toNat / 2 ^ 4) := by
    have e := pk_ushr (nI c * (40503 : Int32)) 4 4 (by decide)
    apply Int32.toBitVec_inj.mp
    apply BitVec.eq_of_toNat_eq
    rw [pk_tn (show (nI c * (40503 : Int32)).toBitVec.toNat / 2 ^ 4 < 2 ^ 32 by omega)]
    exact e
  rw [e]
  exact pk_rem (a := (nI c * (40503 : Int32)).toBitVec.toNat / 2 ^ 4) (d := 16384) (by omega) (by decide) (by decide)
section IN
variable {g : AH} {S : WSt} {cf : Pl → Nat} {PD : Pl → Prop}
theorem isNew_M (hl : Lay g) (hc : CF cf PD) (C : MK cf PD g S) {p : Pl} (hp : PD p) {par act : Nat} {pi ai : Int32} (h1 : 0 < S.1.1 → (par < S.1.1 ∧ act < 18) ∧ pi = nI par ∧ ai = nI act) : OK (f_M_isNew g 201 (nI (cf p)) pi ai) (fun q => q.1 = bI (inL S p || decide (S.1.1 < 4000)) ∧ Dfr SMk g q.2 ∧ MK cf PD q.2 (rch S p par act)) := by
  obtain ⟨W, C0, C1, C3, C4, C5⟩ := id C
  obtain ⟨w1, w2, w3, w4, w5⟩ := id W
  have cl := (hc.2 p hp).1
  have step : ∀ e, (nI ((hfM (cf p) + e) % 16384 + 1)) - (nI ((hfM (cf p) + e) % 16384 + 1)) / (16384 : Int32) * (16384 : Int32) = nI ((hfM (cf p) + (e + 1)) % 16384) := by
    intro e
    have : (hfM (cf p) + e) % 16384 < 16384 := Nat.mod_lt _ (by decide)
    have r := pk_rem (a := (hfM (cf p) + e) % 16384 + 1) (d := 16384) (by omega) (by decide) (by decide)
    rw [nxt_s (by decide)] at r
    exact r
  have walk : ∀ (k : Int32 → Option (Int32 × AH)) (Q : Int32 × AH → Prop) d e n, e + d < 16384 → d < n → HitAt 16384 (hI g 228) (fun x => cf (S.2.1 x)) S.1.1 (cf p) (hfM (cf p)) (e + d) → (∀ n, 0 < n → OK (f_M_isNew_L12 g 201 (nI (cf p)) pi ai k n (nI ((hfM (cf p) + (e + d)) % 16384))) Q) → OK (f_M_isNew_L12 g 201 (nI (cf p)) pi ai k n (nI ((hfM (cf p) + e) % 16384))) Q := by
    intro k Q d
    induction d with
    | zero => intro e n h1 h2 _ hk; exact hk n h2
    | succ d ih =>
      intro e n h1 h2 hit hk
      obtain ⟨n, rfl⟩ : ∃ q, n = q + 1 := ⟨n - 1, by omega⟩
      obtain ⟨v, v1, v2, v3, v4⟩ := hit e (by omega)
      dsimp only at v4
      have sl : (hfM (cf p) + e) % 16384 < 16384 := Nat.mod_lt _ (by decide)
      have nz : ¬ nI v = 0 := nI_ne0 (by omega) (by omega)
      have ne : ¬ nI (cf (S.2.1 (v - 1))) = nI (cf p) := fun z => v4 (nI_inj (by have := (hc.2 _ (C0 (v - 1) (by omega))).1; omega) (by omega) z)
      simp only [f_M_isNew_L12, gR_n (kk201 hl), LR hl, Option.bind_some, rI_n (kk228 hl) sl (by decide), v3, nz, if_false, nI_sub1 (show 0 < v by omega), rI_n (kk225 hl) (show v - 1 < 4001 by omega) (by decide), C3 (v - 1) (by omega), ne, nI_1]
      rw [step]
      refine ih (e + 1) n (by omega) (by omega) (by rw [show e + 1 + d = e + (d + 1) by omega]; exact hit) (fun n hn => ?_)
      rw [show e + 1 + d = e + (d + 1) by omega]
      exact hk n hn
  simp only [f_M_isNew, hfM_v, Option.bind_some]
  have h0 : (hfM (cf p) + 0) % 16384 = hfM (cf p) := by rw [Nat.add_zero]; exact Nat.mod_eq_of_lt (hfM_lt _)
  have go := fun (k : Int32 → Option (Int32 × AH)) (Q : Int32 × AH → Prop) d => walk k Q d 0 FU
  rw [h0] at go
  rcases C5.probe (show S.1.1 < 16384 by omega) (by omega) (cf p) with ⟨x, x1, x2, d, d1, d2, d3⟩ | ⟨no, d, d1, d2, d3⟩
  · refine go _ _ d (by omega) (by unfold FU; omega) (by rw [Nat.zero_add]; exact d3) (fun n hn => ?_)
    obtain ⟨n, rfl⟩ : ∃ q, n = q + 1 := ⟨n - 1, by omega⟩
    rw [Nat.zero_add]
    have sl : (hfM (cf p) + d) % 16384 < 16384 := Nat.mod_lt _ (by decide)
    have nz : ¬ nI (x + 1) = 0 := nI_ne0 (by omega) (by omega)
    have e3 : nI (cf (S.2.1 x)) = nI (cf p) := by rw [x2]
    have pr : nI (x + 1) - 1 = nI x := nI_pred x
    have ip : S.2.1 x = p := hc.1 _ _ (C0 x x1) hp x2
    have iL : inL S p = true := inL_iff.mpr ⟨x, x1, ip⟩
    simp only [f_M_isNew_L12, gR_n (kk201 hl), LR hl, Option.bind_some, rI_n (kk228 hl) sl (by decide), d2, nz, if_false, pr, rI_n (kk225 hl) (show x < 4001 by omega) (by decide), C3 x x1, e3, if_true]
    refine OK.mk ⟨by rw [iL]; rfl, Dfr.refl, ?_⟩
    unfold rch
    rw [if_pos iL]
    exact C
  · refine go _ _ d (by omega) (by unfold FU; omega) (by rw [Nat.zero_add]; exact d3) (fun n hn => ?_)
    obtain ⟨n, rfl⟩ : ∃ q, n = q + 1 := ⟨n - 1, by omega⟩
    rw [Nat.zero_add]
    have sl : (hfM (cf p) + d) % 16384 < 16384 := Nat.mod_lt _ (by decide)
    have nin : ¬ inL S p = true := fun z => by
      obtain ⟨x, x1, x2⟩ := inL_iff.mp z
      exact no x x1 (by rw [x2])
    have nin' : inL S p = false := by simpa using nin
    simp only [f_M_isNew_L12, gR_n (kk201 hl), LR hl, Option.bind_some, rI_n (kk228 hl) sl (by decide), d2, if_true, gI_n (kk201 hl), C1]
    have WR' := wok_rch W (hc.2 p hp).2 (fun z => (h1 z).1)
    rw [nin']
    unfold rch at WR' ⊢
    rw [if_neg nin] at WR' ⊢
    by_cases r : S.1.1 < 4000
    · rw [if_pos r] at WR' ⊢
      have r' : ¬ nI S.1.1 = 4000 := fun z => absurd (nI_inj (b := 4000) (by omega) (by decide) z) (by omega)
      obtain ⟨g1, e1⟩ : ∃ g1, g1 = uI g 225 S.1.1 (nI (cf p)) := ⟨_, rfl⟩
      have f1 : Dfr SMk g g1 := by rw [e1]; exact Dfr.uI (by decide) (by unfold SMk; omega)
      have l1 := f1.lay hl
      have p1 : wI g 225 (nI S.1.1) (nI (cf p)) = some g1 := by rw [e1]; exact wI_n (by decide) (kk225 hl) (show S.1.1 < 4001 by omega) (by decide)
      obtain ⟨g2, e2⟩ : ∃ g2, g2 = uI g1 226 S.1.1 pi := ⟨_, rfl⟩
      have f2 : Dfr SMk g g2 := by rw [e2]; exact f1.trans (Dfr.uI (by decide) (by unfold SMk; omega))
      have l2 := f2.lay hl
      have p2 : wI g1 226 (nI S.1.1) pi = some g2 := by rw [e2]; exact wI_n (by decide) (kk226 l1) (show S.1.1 < 4001 by omega) (by decide)
      obtain ⟨g3, e3⟩ : ∃ g3, g3 = uI g2 227 S.1.1 ai := ⟨_, rfl⟩
      have f3 : Dfr SMk g g3 := by rw [e3]; exact f2.trans (Dfr.uI (by decide) (by unfold SMk; omega))
      have l3 := f3.lay hl
      have p3 : wI g2 227 (nI S.1.1) ai = some g3 := by rw [e3]; exact wI_n (by decide) (kk227 l2) (show S.1.1 < 4001 by omega) (by decide)
      obtain ⟨g4, e4⟩ : ∃ g4, g4 = uI g3 201 38 (nI (S.1.1 + 1)) := ⟨_, rfl⟩
      have f4 : Dfr SMk g g4 := by rw [e4]; exact f3.trans (Dfr.uI (by decide) (by unfold SMk; omega))
      have l4 := f4.lay hl
      have p4 : pI 12 g3 201 38 (nI (S.1.1 + 1)) = some g4 := by rw [e4]; exact pI_n (kk201 l3)
      obtain ⟨g5, e5⟩ : ∃ g5, g5 = uI g4 228 ((hfM (cf p) + d) % 16384) (nI (S.1.1 + 1)) := ⟨_, rfl⟩
      have f5 : Dfr SMk g g5 := by rw [e5]; exact f4.trans (Dfr.uI (by decide) (by unfold SMk; omega))
      have p5 : wI g4 228 (nI ((hfM (cf p) + d) % 16384)) (nI (S.1.1 + 1)) = some g5 := by rw [e5]; exact wI_n (by decide) (kk228 l4) sl (by decide)
      have i1 : hI g1 201 38 = nI S.1.1 := by rw [e1, hI_ne (by omega)]; exact C1
      have i2 : hI g2 201 38 = nI S.1.1 := by rw [e2, hI_ne (by omega)]; exact i1
      have i3 : hI g3 201 38 = nI S.1.1 := by rw [e3, hI_ne (by omega)]; exact i2
      have i4 : hI g4 201 38 = nI (S.1.1 + 1) := by rw [e4, hI_eq]
      simp only [r', if_false, p1, Option.bind_some, gR_n (kk201 l1), LR l1, gI_n (kk201 l1), i1, p2, gR_n (kk201 l2), LR l2, gI_n (kk201 l2), i2, p3, gI_n (kk201 l3), i3, nI_1, p4, gR_n (kk201 l4), LR l4, gI_n (kk201 l4), i4, p5]
      refine OK.mk ⟨by simp [r, bI], f5, WR', fun x hx => ?_, ?_, fun x hx => ?_, fun x h0 hx => ?_, ?_⟩
      · dsimp only at hx ⊢
        by_cases z : x = S.1.1
        · rw [if_pos z]; exact hp
        · rw [if_neg z]; exact C0 x (by omega)
      · rw [e5, hI_ne (by omega)]; exact i4
      · dsimp only at hx ⊢
        rw [e5, hI_ne (by omega), e4, hI_ne (by omega), e3, hI_ne (by omega), e2, hI_ne (by omega), e1]
        by_cases z : x = S.1.1
        · rw [z, hI_eq, if_pos rfl]
        · rw [hI_ne (by omega), if_neg z]; exact C3 x (by omega)
      · dsimp only at hx ⊢
        rw [e5, hI_ne (by omega), hI_ne (by omega), e4, hI_ne (by omega), hI_ne (by omega), e3, hI_ne (by omega)]
        by_cases z : x = S.1.1
        · have := h1 (by omega)
          rw [z, hI_eq, if_pos rfl, if_pos rfl, e2, hI_eq]
          exact this.2
        · rw [hI_ne (by omega), e2, hI_ne (by omega), hI_ne (by omega), e1, hI_ne (by omega), hI_ne (by omega), if_neg z, if_neg z]
          exact C4 x h0 (by omega)
      · refine C5.ins (by omega) d1 d2 d3 (fun s => ?_) (fun x hx => ?_) ?_
        · rw [e5]
          by_cases z : s = (hfM (cf p) + d) % 16384
          · rw [z, hI_eq, if_pos rfl]
          · rw [hI_ne (by omega), if_neg z, e4, hI_ne (by omega), e3, hI_ne (by omega), e2, hI_ne (by omega), e1, hI_ne (by omega)]
        · dsimp only; rw [if_neg (by omega)]
        · dsimp only; rw [if_pos rfl]
    · rw [if_neg r] at WR' ⊢
      have en : S.1.1 = 4000 := by omega
      have r' : nI S.1.1 = 4000 := by rw [en]; rfl
      simp only [r', if_true]
      exact OK.mk ⟨by simp [r, bI], Dfr.refl, WR', C0, C1, C3, C4, C5⟩
theorem restart_M (hl : Lay g) : OK (f_M_restart g 201) (fun g' => Dfr SMk g g' ∧ MK cf PD g' ((0, false), (fun _ => (0, 0, 0, 0)), (fun _ => 0), (fun _ => 0))) := by
  obtain ⟨g1, e1⟩ : ∃ g1, g1 = uI g 201 38 0 := ⟨_, rfl⟩
  have f1 : Dfr SMk g g1 := by rw [e1]; exact Dfr.uI (by decide) (by unfold SMk; omega)
  have l1 := f1.lay hl
  have p1 : pI 12 g 201 38 0 = some g1 := by rw [e1]; exact pI_n (kk201 hl)
  simp only [f_M_restart, p1, Option.bind_some]
  have main : ∀ n (s : Nat × AH), (s.1 ≤ 16384 ∧ Dfr (OnC 228) g1 s.2 ∧ ∀ w, w < s.1 → hI s.2 228 w = 0) → 16384 - s.1 < n → OK (f_M_restart_L7 201 n (nI s.1) s.2) (fun g' => Dfr SMk g g' ∧ MK cf PD g' ((0, false), (fun _ => (0, 0, 0, 0)), (fun _ => 0), (fun _ => 0))) := by
    refine loopU (fun n (s : Nat × AH) => f_M_restart_L7 201 n (nI s.1) s.2) _ (fun s => 16384 - s.1) _ ?_
    intro n s ⟨h1, h2, h3⟩ ih
    obtain ⟨i, e⟩ := s
    dsimp only at h1 h2 h3 ih ⊢
    have le := h2.lay l1
    by_cases q : i < 16384
    · have qi : nI i < 16384 := nI_lt (b := 16384) q (by decide)
      simp only [f_M_restart_L7, qi, if_true, gR_n (kk201 le), LR le, Option.bind_some, wI_n (show 4 ≤ 228 by decide) (kk228 le) q (by decide), nI_1]
      refine ih (i + 1, uI e 228 i _) ⟨by dsimp only; omega, h2.trans (Dfr.uI (by decide) rfl), fun w hw => ?_⟩ (by dsimp only; omega)
      dsimp only at hw ⊢
      by_cases z : w = i
      · subst z; rw [hI_eq]
      · rw [hI_ne (by omega)]; exact h3 w (by omega)
    · have : i = 16384 := by omega
      subst this
      simp only [f_M_restart_L7, show ¬ nI 16384 < 16384 by decide, if_false]
      refine OK.mk ⟨f1.trans (h2.mono (fun a k z => by unfold OnC at z; unfold SMk; omega)), ⟨Nat.zero_le _, fun x hx => absurd hx (by simp), fun x y hx => absurd hx (by simp), fun z => (nomatch z), fun x h0 hx => absurd hx (by simp)⟩, fun x hx => absurd hx (by simp), ?_, fun x hx => absurd hx (by simp), fun x h0 hx => absurd hx (by simp), HT.nil h3⟩
      rw [h2.I (by unfold OnC; omega), e1, hI_eq]; rfl
  exact main FU (0, g1) ⟨by simp, Dfr.refl, fun w hw => absurd hw (by simp)⟩ (by show 16384 - 0 < FU; unfold FU; omega)
end IN
