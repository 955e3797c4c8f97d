/-! the reference reads a page -/
theorem bd4_h {α β γ δ ε : Type} {o : Option (α × β × γ × δ)} {f : α → β → γ → δ → Option ε} {Q : ε → Prop} (T : α × β × γ × δ → Prop) (h1 : OK o T) (h2 : ∀ a b c d, T (a, b, c, d) → OK (f a b c d) Q) : OK (bd4 o f) Q := by
  obtain ⟨⟨a, b, c, d⟩, e, t⟩ := h1
  rw [e]
  exact h2 a b c d t
theorem isIn_v (h : AH) {c : Nat} (hc : c ≤ 126) : f_M_in h (nI c) 97 104 = some (if 97 ≤ c ∧ c ≤ 104 then 1 else 0) := by
  have fin : ∀ c, c < 127 → ((if nI c < (97 : Int32) then (0 : Int32) else if (104 : Int32) < nI c then (0 : Int32) else (1 : Int32)) = (if 97 ≤ c ∧ c ≤ 104 then 1 else 0)) := by decide +kernel
  unfold f_M_in
  rw [← fin c (by omega)]
  split
  · rfl
  · split <;> rfl
def RPm (h : AH) (pn : Nat) (pg : Nat → Nat) : Prop := pn ≤ 80 ∧ hI h 201 0 = nI pn ∧ ∀ i, i < pn → 1 ≤ pg i ∧ pg i ≤ 126 ∧ hI h 202 i = nI (pg i)
theorem loop_M {h : AH} {pn : Nat} {pg : Nat → Nat} (hl : Lay h) (rp : RPm h pn pg) {ρ : Type} {Q : ρ → Prop} {k : Int32 → Int32 → Int32 → AH → Option ρ} {R : Nat × PSt} (hk : ∀ g', MQr 80 h g' R.2 → OK (k (bI R.2.1.2.2.2) R.2.1.2.2.1 (nI R.1) g') Q) : ∀ d i N (g : AH) (P : PSt), i + d = pn → d + 1 < N → MQr i h g P → PB P i → rdF pg d i P = R → OK (f_M_readPage_L45 201 k N (bI P.1.2.2.2) P.1.2.2.1 (nI i) 1 g) Q := by
  have h80 := rp.1
  intro d
  induction d with
  | zero =>
    intro i N g P h1 h2 C B e
    obtain ⟨N, rfl⟩ : ∃ q, N = q + 1 := ⟨N - 1, by omega⟩
    have lg := C.1.lay hl
    have v1 : hI g 201 0 = nI pn := by rw [C.1.I (by unfold SRm; omega)]; exact rp.2.1
    rw [rdF] at e
    subst e
    rw [f_M_readPage_L45, gI_n (kk201 lg), v1, ob_v, if_neg (nI_nlt (show pn ≤ i by omega) (by omega))]
    exact hk g (C.up (by omega))
  | succ d ih =>
    intro i N g P h1 h2 C B e
    obtain ⟨N, rfl⟩ : ∃ q, N = q + 1 := ⟨N - 1, by omega⟩
    have lg := C.1.lay hl
    obtain ⟨C1, C2, C3, C5, C6, C8⟩ := id C
    obtain ⟨b1, b2, b3, b4, b5, b6⟩ := id B
    have hb : (top P).1.1 ≤ 2 := (b4 _ (Nat.le_refl P.1.1)).1
    have v1 : hI g 201 0 = nI pn := by rw [C1.I (by unfold SRm; omega)]; exact rp.2.1
    have hi : i < pn := by omega
    obtain ⟨r1, r2, r3⟩ := rp.2.2 i hi
    have v2 : hI g 202 i = nI (pg i) := by rw [C1.I (by unfold SRm; omega)]; exact r3
    rw [rdF] at e
    obtain ⟨c, ec⟩ : ∃ c, c = pg i := ⟨_, rfl⟩
    rw [← ec] at e r2 v2
    have n40 : P.1.2.1 ≤ 40 := by omega
    rw [f_M_readPage_L45, gI_n (kk201 lg), v1, ob_v, if_pos (nI_lt hi (by omega)), if_neg (show ¬ (1 : Int32) = 0 by decide), gR_n (kk201 lg), ob_v]
    simp only [LR lg, ob_v]
    rw [rI_n (kk202 lg) (show i < 80 by omega) (by decide), v2, ob_v]
    have ne : ∀ d : Nat, d < 2 ^ 31 → ¬ c = d → ¬ nI c = nI d := fun d hd z w => z (nI_inj (by omega) hd w)
    refine bd4_h (fun q => (∃ P', acc1 P c = some P' ∧ MQr (i + 1) h q.2.2.2 P' ∧ q.1 = bI P'.1.2.2.2 ∧ q.2.1 = P'.1.2.2.1 ∧ q.2.2.1 = 1) ∨ (acc1 P c = none ∧ q = (bI P.1.2.2.2, P.1.2.2.1, 0, g))) ?_ ?_
    · obtain ⟨a1, ⟨cb, cb1, cb2, cb3⟩, _⟩ := C5 P.1.1 (Nat.le_refl _)
      have a1' : hI g 214 P.1.1 = nI (top P).1.1 := a1
      have cb3' : 0 < cb ↔ (top P).1.2.1 = true := cb3
      have tp : ∀ t, 1 ≤ t → (top P).1.1 = t → 1 ≤ P.1.1 := by
        intro t t1 t2
        by_cases z : P.1.1 = 0
        · unfold top at t2; rw [z, b5] at t2; omega
        · omega
      by_cases q : P.1.2.2.1 = -1
      · rw [if_pos q]
        have fl : acc1 P c = none → OK (some (bI P.1.2.2.2, P.1.2.2.1, (0 : Int32), g)) (fun q => (∃ P', acc1 P c = some P' ∧ MQr (i + 1) h q.2.2.2 P' ∧ q.1 = bI P'.1.2.2.2 ∧ q.2.1 = P'.1.2.2.1 ∧ q.2.2.1 = 1) ∨ (acc1 P c = none ∧ q = (bI P.1.2.2.2, P.1.2.2.1, 0, g))) := fun z => OK.mk (Or.inr ⟨z, rfl⟩)
        by_cases z63 : c = 63
        · rw [if_pos (show nI c = 63 by rw [z63]; rfl), if_neg (show ¬ nI c = 33 from ne 33 (by decide) (by omega))]
          refine OK.mk (Or.inl ⟨sgnP P 0, ?_, C.up (by omega), rfl, rfl, rfl⟩)
          unfold acc1; rw [if_pos q, if_neg (by omega), if_pos z63]
        rw [if_neg (show ¬ nI c = 63 from ne 63 (by decide) z63)]
        by_cases z33 : c = 33
        · rw [if_pos (show nI c = 33 by rw [z33]; rfl), if_pos (show nI c = 33 by rw [z33]; rfl)]
          refine OK.mk (Or.inl ⟨sgnP P 1, ?_, C.up (by omega), rfl, rfl, rfl⟩)
          unfold acc1; rw [if_pos q, if_pos z33]
        rw [if_neg (show ¬ nI c = 33 from ne 33 (by decide) z33)]
        have opn : ∀ br, br ≤ 2 → ∃ g', f_M_open g 201 (nI br) = some g' ∧ MQr (i + 1) h g' (opnP P br) := by
          intro br hbr
          obtain ⟨g', e', f', w', L'⟩ := open_M (K := i + 1) lg (D := P.1.1 + 1) (by omega) C2 (nI_1 _) (br := br)
          have oo : ∀ a k, ¬ (a = 201 ∧ k = 21) → ¬ (214 ≤ a ∧ a ≤ 221 ∧ k = P.1.1 + 1) → hI g' a k = hI g a k ∧ hJ g' a k = hJ g a k := fun a k z w => ⟨f'.I (by omega), f'.J (by omega)⟩
          refine ⟨g', e', C1.trans (f'.mono (fun a k z => by unfold SRm; omega)), w', by rw [(oo 201 30 (by omega) (by omega)).1]; exact C3, fun j hj => ?_, fun s r1 r2 => by rw [(oo 222 _ (by omega) (by omega)).1, (oo 223 _ (by omega) (by omega)).2]; exact C6 s r1 r2, fun s r1 r2 => by rw [(oo 223 _ (by omega) (by omega)).2]; exact C8 s r1 r2⟩
          have hj' : j ≤ P.1.1 + 1 := hj
          show LVm (i + 1) g' j (setTop P.2.1 (P.1.1 + 1) (lv0 br) j)
          unfold setTop
          by_cases z : j = P.1.1 + 1
          · rw [if_pos z, z]; exact L'
          · rw [if_neg z]; exact ((C5 j (by omega)).up (by omega)).fr (fun a _ _ => oo a j (by omega) (by omega))
        by_cases z40 : c = 40
        · obtain ⟨g', e', c'⟩ := opn 1 (by decide)
          have e2 : f_M_open g 201 (1 : Int32) = some g' := e'
          rw [if_pos (show nI c = 40 by rw [z40]; rfl), if_pos (show nI c = 40 by rw [z40]; rfl), ob_v, cv_n (kk201 lg), e2, ob_v]
          refine OK.mk (Or.inl ⟨opnP P 1, ?_, c', rfl, rfl, rfl⟩)
          unfold acc1; rw [if_pos q, if_neg z33, if_neg z63, if_neg (by omega), if_pos z40]
        rw [if_neg (show ¬ nI c = 40 from ne 40 (by decide) z40)]
        by_cases z123 : c = 123
        · obtain ⟨g', e', c'⟩ := opn 2 (by decide)
          have e2 : f_M_open g 201 (2 : Int32) = some g' := e'
          rw [if_pos (show nI c = 123 by rw [z123]; rfl), if_neg (show ¬ nI c = 40 from ne 40 (by decide) z40), ob_v, cv_n (kk201 lg), e2, ob_v]
          refine OK.mk (Or.inl ⟨opnP P 2, ?_, c', rfl, rfl, rfl⟩)
          unfold acc1; rw [if_pos q, if_neg z33, if_neg z63, if_neg (by omega), if_neg z40, if_pos z123]
        rw [if_neg (show ¬ nI c = 123 from ne 123 (by decide) z123)]
        by_cases z48 : c = 48
        · obtain ⟨g', e', c'⟩ := append_M hl C (by omega) n40 0 0 true
          have e2 : f_M_append g 201 (1 : Int32) (0 : Int64) (0 : Int64) = some g' := e'
          rw [if_pos (show nI c = 48 by rw [z48]; rfl), cv_n (kk201 lg), e2, ob_v]
          refine OK.mk (Or.inl ⟨_, ?_, c'.up (by omega), rfl, rfl, rfl⟩)
          unfold acc1; rw [if_pos q, if_neg z33, if_neg z63, if_pos z48]
        rw [if_neg (show ¬ nI c = 48 from ne 48 (by decide) z48)]
        have ac : acc1 P c = (if c = 124 then (if P.1.2.2.2 = true ∧ (top P).1.1 = 1 then some (barP P) else none)
            else if c = 41 then (if P.1.2.2.2 = true ∧ (top P).1.1 = 1 ∧ (top P).1.2.1 = true then some (clo1 P) else none)
            else if c = 125 then (if P.1.2.2.2 = true ∧ (top P).1.1 = 2 then some (clo2 P) else none)
            else none) := by unfold acc1; rw [if_pos q, if_neg z33, if_neg z63, if_neg z48, if_neg z40, if_neg z123]
        have b0 : ¬ P.1.2.2.2 = true → bI P.1.2.2.2 = 0 := fun z => by rw [show P.1.2.2.2 = false by simpa using z]; rfl
        have b1' : P.1.2.2.2 = true → ¬ bI P.1.2.2.2 = 0 := fun z => by rw [z]; decide
        have t1 : (top P).1.1 = 1 → nI (top P).1.1 = 1 := fun z => by rw [z]; rfl
        have t2 : (top P).1.1 = 2 → nI (top P).1.1 = 2 := fun z => by rw [z]; rfl
        have t1' : ¬ (top P).1.1 = 1 → ¬ nI (top P).1.1 = 1 := fun z w => z (nI_inj (by omega) (by decide) w)
        have t2' : ¬ (top P).1.1 = 2 → ¬ nI (top P).1.1 = 2 := fun z w => z (nI_inj (by omega) (by decide) w)
        have cl : ∀ b, (b = 1 ∨ b = 2) → (top P).1.1 = b → ∃ g', f_M_close g 201 (nI (top P).1.1) = some g' ∧ MQr (i + 1) h g' (if b = 1 then clo1 P else clo2 P) := by
          intro b hb' tb
          rw [tb]
          obtain ⟨g', e', c'⟩ := close_M hl C (by omega) (tp b (by omega) tb) n40 hb'
          exact ⟨g', e', c'.up (by omega)⟩
        by_cases z124 : c = 124
        · rw [if_pos (show nI c = 124 by rw [z124]; rfl)]
          rw [if_pos z124] at ac
          have n41 : ¬ nI c = 41 := ne 41 (by decide) (by omega)
          have n125 : ¬ nI c = 125 := ne 125 (by decide) (by omega)
          by_cases bt : P.1.2.2.2 = true
          · rw [if_neg (b1' bt)]
            simp only [gR_n (kk201 lg), gI_n (kk201 lg), LR lg, C2, ob_v, rI_n (kk214 lg) (show P.1.1 < 81 by omega) (by decide), a1']
            by_cases tt : (top P).1.1 = 1
            · rw [if_pos (t1 tt)]
              obtain ⟨g1, g2, g3, y1, y2, y3, y4, y5, y6, y7⟩ := bar_M hl C (by omega) (by omega)
              simp only [cv_n (kk201 lg), y1, ob_v, gR_n (kk201 y2), gI_n (kk201 y2), LR y2, y3, rI_n (kk215 y2) (show P.1.1 < 81 by omega) (by decide), y4, cv_n (kk201 y5), y6]
              refine OK.mk (Or.inl ⟨_, by rw [ac, if_pos ⟨bt, tt⟩], y7, rfl, rfl, rfl⟩)
            · rw [if_neg (t1' tt), if_neg n41, if_neg n125]
              exact fl (by rw [ac, if_neg (fun w => tt w.2)])
          · rw [if_pos (b0 bt), if_neg n41, if_neg n125]
            exact fl (by rw [ac, if_neg (fun w => bt w.1)])
        rw [if_neg (show ¬ nI c = 124 from ne 124 (by decide) z124)]
        rw [if_neg z124] at ac
        by_cases z41 : c = 41
        · rw [if_pos (show nI c = 41 by rw [z41]; rfl)]
          rw [if_pos z41] at ac
          have n125 : ¬ nI c = 125 := ne 125 (by decide) (by omega)
          by_cases bt : P.1.2.2.2 = true
          · rw [if_neg (b1' bt)]
            simp only [gR_n (kk201 lg), gI_n (kk201 lg), LR lg, C2, ob_v, rI_n (kk214 lg) (show P.1.1 < 81 by omega) (by decide), a1', rI_n (kk215 lg) (show P.1.1 < 81 by omega) (by decide), cb2]
            by_cases tt : (top P).1.1 = 1
            · rw [if_pos (t1 tt)]
              by_cases ba : (top P).1.2.1 = true
              · rw [if_pos (show (0 : Int32) < nI cb from nI_lt (a := 0) (cb3'.mpr ba) (by omega))]
                obtain ⟨g', e', c'⟩ := cl 1 (Or.inl rfl) tt
                rw [cv_n (kk201 lg), e', ob_v]
                refine OK.mk (Or.inl ⟨_, by rw [ac, if_pos ⟨bt, tt, ba⟩]; rfl, c', ?_, rfl, rfl⟩)
                rw [bt]; rfl
              · rw [if_neg (show ¬ (0 : Int32) < nI cb from nI_nlt (a := 0) (Nat.le_of_not_lt (fun w => ba (cb3'.mp w))) (by omega)), if_neg n125]
                exact fl (by rw [ac, if_neg (fun w => ba w.2.2)])
            · rw [if_neg (t1' tt), if_neg n125]
              exact fl (by rw [ac, if_neg (fun w => tt w.2.1)])
          · rw [if_pos (b0 bt), if_neg n125]
            exact fl (by rw [ac, if_neg (fun w => bt w.1)])
        rw [if_neg (show ¬ nI c = 41 from ne 41 (by decide) z41)]
        rw [if_neg z41] at ac
        by_cases z125 : c = 125
        · rw [if_pos (show nI c = 125 by rw [z125]; rfl)]
          rw [if_pos z125] at ac
          by_cases bt : P.1.2.2.2 = true
          · rw [if_neg (b1' bt)]
            simp only [gR_n (kk201 lg), gI_n (kk201 lg), LR lg, C2, ob_v, rI_n (kk214 lg) (show P.1.1 < 81 by omega) (by decide), a1']
            by_cases tt : (top P).1.1 = 2
            · rw [if_pos (t2 tt)]
              obtain ⟨g', e', c'⟩ := cl 2 (Or.inr rfl) tt
              rw [cv_n (kk201 lg), e', ob_v]
              refine OK.mk (Or.inl ⟨_, by rw [ac, if_pos ⟨bt, tt⟩]; rfl, c', ?_, rfl, rfl⟩)
              rw [bt]; rfl
            · rw [if_neg (t2' tt)]
              exact fl (by rw [ac, if_neg (fun w => tt w.2)])
          · rw [if_pos (b0 bt)]
            exact fl (by rw [ac, if_neg (fun w => bt w.1)])
        rw [if_neg (show ¬ nI c = 125 from ne 125 (by decide) z125)]
        rw [if_neg z125] at ac
        exact fl ac
      · rw [if_neg q, isIn_v g r2, ob_v]
        rw [if_neg q] at b2
        by_cases w : 97 ≤ c ∧ c ≤ 104
        · rw [if_pos w, if_neg (show ¬ (1 : Int32) = 0 by decide)]
          obtain ⟨g1, g2, g3, y1, y2, y3, y4, y5, y6, y7, y8⟩ := msg_M hl C (by omega) (by omega) w (b3.resolve_left q)
          simp only [gR_n (kk201 lg), gI_n (kk201 lg), LR lg, C3, ob_v, y1, gI_n (kk201 y2), y3, nI_1, y4, gI_n (kk201 y5), y6, cv_n (kk201 y5), y7]
          refine OK.mk (Or.inl ⟨_, ?_, y8.up (by omega), rfl, rfl, rfl⟩)
          unfold acc1; rw [if_neg q, if_pos w]
        · rw [if_neg w, if_pos rfl]
          refine OK.mk (Or.inr ⟨?_, rfl⟩)
          unfold acc1; rw [if_neg q, if_neg w]
    · intro x y z g' T
      rcases T with ⟨P', t1, t2, t3, t4, t5⟩ | ⟨t1, t2⟩
      · dsimp only at t2 t3 t4 t5
        rw [t1] at e
        rw [t3, t4, t5, if_neg (show ¬ (1 : Int32) = 0 by decide), ob_v, nI_1]
        exact ih (i + 1) N g' P' (by omega) (by omega) t2 (acc1_B B t1) e
      · cases t2
        rw [t1] at e
        dsimp only at e
        subst e
        obtain ⟨N, rfl⟩ : ∃ q, N = q + 1 := ⟨N - 1, by omega⟩
        rw [if_pos rfl, ob_v, show nI i + (0 : Int32) = nI i from nI_add i 0, f_M_readPage_L45, gI_n (kk201 lg), v1, ob_v, if_pos (nI_lt hi (by omega)), if_pos rfl]
        exact hk g (C.up (by omega))
