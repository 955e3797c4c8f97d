/-! THE REFERENCE'S WALK, at once: b's names for messages; where a's come from stands in 230 -/
def sO (h : AH) (x : Nat) : Mc := fun i z => if hI h 230 z = -1 then -1 else nx h x i (8 + tN (hI h 230 z))
def hO (h : AH) (x : Nat) : Mc := fun i z => if hI h 230 z = -1 then -1 else nx h x i (tN (hI h 230 z))
def OG (h : AH) : Prop := ∀ z, z < 8 → hI h 230 z = -1 ∨ ∃ q, q < 8 ∧ hI h 230 z = nI q
def SMw (a k : Nat) : Prop := SMk a k ∨ (a = 201 ∧ (k = 45 ∨ k = 46 ∨ k = 47 ∨ k = 48))
def PD0 (n m : Nat) (p : Pl) : Prop := p.1 ≤ n ∧ p.2.1 ≤ m ∧ p.2.2.1 = 0 ∧ p.2.2.2 = 0
theorem cf0 {n m : Nat} (hn : n ≤ 24) (hm : m ≤ 24) : CF c0 (PD0 n m) := by
  refine ⟨fun p q hp hq e => ?_, fun p hp => ?_⟩
  · obtain ⟨a1, a2, a3, a4⟩ := hp
    obtain ⟨b1, b2, b3, b4⟩ := hq
    exact c0_inj ⟨by omega, by omega, by omega, by omega⟩ ⟨by omega, by omega, by omega, by omega⟩ ⟨a3, a4⟩ ⟨b3, b4⟩ e
  · obtain ⟨a1, a2, a3, a4⟩ := hp
    refine ⟨?_, by omega, by omega, by omega, by omega⟩
    unfold c0
    omega
theorem pig : ∀ N n (f : Nat → Nat), (∀ i, i < n → f i < N) → (∀ i j, i < n → j < n → f i = f j → i = j) → n ≤ N
  | 0, n, f, h1, _ => by
    rcases Nat.eq_zero_or_pos n with z | z
    · omega
    · have := h1 0 z; omega
  | N + 1, n, f, h1, h2 => by
    by_cases q : ∃ i, i < n ∧ f i = N
    · obtain ⟨i0, i1, i2⟩ := q
      have := pig N (n - 1) (fun i => if i = i0 then f (n - 1) else f i) (fun i hi => ?_) (fun i j hi hj e => ?_)
      · omega
      · by_cases z : i = i0
        · rw [if_pos z]
          have l := h1 (n - 1) (by omega)
          have ne : ¬ f (n - 1) = N := fun w => by have := h2 (n - 1) i0 (by omega) i1 (by omega); omega
          omega
        · rw [if_neg z]
          have l := h1 i (by omega)
          have ne : ¬ f i = N := fun w => z (h2 i i0 (by omega) i1 (by omega))
          omega
      · by_cases z : i = i0
        · by_cases z' : j = i0
          · omega
          · rw [if_pos z, if_neg z'] at e
            have := h2 (n - 1) j (by omega) (by omega) e; omega
        · by_cases z' : j = i0
          · rw [if_neg z, if_pos z'] at e
            have := h2 i (n - 1) (by omega) (by omega) e; omega
          · rw [if_neg z, if_neg z'] at e
            exact h2 i j (by omega) (by omega) e
    · have := pig N n f (fun i hi => by
        have l := h1 i hi
        have ne : ¬ f i = N := fun w => q ⟨i, hi, w⟩
        omega) h2
      omega
theorem few0 {n m : Nat} {S : WSt} (hn : n ≤ 24) (hm : m ≤ 24) (w : WOK S) (d : ∀ x, x < S.1.1 → PD0 n m (S.2.1 x)) : S.1.1 ≤ 625 ∧ S.1.2 = false := by
  have c := cf0 hn hm
  have le : S.1.1 ≤ 625 := pig 625 S.1.1 (fun x => c0 (S.2.1 x)) (fun i hi => by
    obtain ⟨a1, a2, a3, a4⟩ := d i hi
    show c0 (S.2.1 i) < 625
    unfold c0
    omega) (fun i j hi hj e => w.2.2.1 i j hi hj (c.1 _ _ (d i hi) (d j hj) e))
  refine ⟨le, ?_⟩
  cases z : S.1.2 with
  | false => rfl
  | true => have := w.2.2.2.1 z; omega
/-- a reference heap on its way -/
def MW0 (h : AH) (n m : Nat) (g : AH) (S : WSt) : Prop := Dfr SMw h g ∧ MK c0 (PD0 n m) g S
section PM0
variable {h g : AH} {x y a b n m : Nat} {S : WSt} {p : Pl} {t : Nat}
theorem smw_ag (f : Dfr SMw h g) : Ag FTalk h g := f.fr.ag (by unfold FTalk SMw SMk; omega)
theorem smw_nx (f : Dfr SMw h g) : nx g = nx h := by funext t s k; exact f.I (by unfold SMw SMk; omega)
theorem smw_en (f : Dfr SMw h g) : en g = en h := by funext t s; exact f.I (by unfold SMw SMk; omega)
theorem smw_O (f : Dfr SMw h g) : sO g = sO h ∧ hO g = hO h := by
  have e : ∀ z, hI g 230 z = hI h 230 z := fun z => f.I (by unfold SMw SMk; omega)
  constructor
  · funext x i z; unfold sO; rw [e, smw_nx f]
  · funext x i z; unfold hO; rw [e, smw_nx f]
theorem MK.fr {cf : Pl → Nat} {PD : Pl → Prop} {g g' : AH} {S : WSt} (C : MK cf PD g S) (e : ∀ a k, ((a = 201 ∧ k = 38) ∨ (225 ≤ a ∧ a ≤ 228)) → hI g' a k = hI g a k) : MK cf PD g' S := by
  obtain ⟨d1, d2, d3, d4, d5, d6⟩ := C
  refine ⟨d1, d2, by rw [e 201 38 (by omega)]; exact d3, fun z hz => by rw [e 225 z (by omega)]; exact d4 z hz, fun z z0 hz => by rw [e 226 z (by omega), e 227 z (by omega)]; exact d5 z z0 hz, ?_⟩
  have : hI g' 228 = hI g 228 := by funext s; exact e 228 s (by omega)
  rw [this]; exact d6
theorem says_M (hl : Lay g) (og : OG g) {i z : Nat} (hx : x < 6) (hi : i ≤ 24) (hz : z < 8) : f_M_saysOf g 201 (nI x) (nI i) (nI z) = some (sO g x i z) ∧ f_M_hearsOf g 201 (nI x) (nI i) (nI z) = some (hO g x i z) := by
  unfold sO hO
  rcases og z hz with e | ⟨q, q8, e⟩
  · constructor
    · simp only [f_M_saysOf, gR_n (kk201 hl), LR hl, ob_v, rI_n (kk230 hl) hz (by decide), e, if_true]
    · simp only [f_M_hearsOf, gR_n (kk201 hl), LR hl, ob_v, rI_n (kk230 hl) hz (by decide), e, if_true]
  · have ne : ¬ nI q = -1 := fun w => m1_nI (by omega) w
    have p1 : f_M_place g (nI x) (nI i) (1 : Int32) (nI q) = some (nI (400 * x + 16 * i + (8 + q))) := by
      have := place_M g x i 1 q; rw [show 8 * 1 + q = 8 + q by omega] at this; exact this
    have p0 : f_M_place g (nI x) (nI i) (0 : Int32) (nI q) = some (nI (400 * x + 16 * i + q)) := by
      have := place_M g x i 0 q; rw [show 8 * 0 + q = q by omega] at this; exact this
    have tq : tN (nI q) = q := cl_nI (by omega)
    constructor
    · simp only [f_M_saysOf, gR_n (kk201 hl), LR hl, ob_v, rI_n (kk230 hl) hz (by decide), e, ne, if_false, p1, next_M hl hx hi (show 8 + q < 16 by omega), tq]
    · simp only [f_M_hearsOf, gR_n (kk201 hl), LR hl, ob_v, rI_n (kk230 hl) hz (by decide), e, ne, if_false, p0, next_M hl hx hi (show q < 16 by omega), tq]
theorem mch_O (og : OG h) (T1 : TK h x a n) (T2 : TK h y b m) : MCh n m (sO h x) (hO h x) (sX h y) (hX h y) := by
  have M := mch_T T1 T2
  refine ⟨fun i hi k hk => ?_, M.2⟩
  unfold sO hO
  rcases og k hk with e | ⟨q, q8, e⟩
  · rw [if_pos e, if_pos e]; exact ⟨Or.inl rfl, Or.inl rfl⟩
  · have ne : ¬ hI h 230 k = -1 := fun w => m1_nI (by omega) (e.symm.trans w)
    have tq : tN (hI h 230 k) = q := by rw [e]; exact cl_nI (by omega)
    rw [if_neg ne, if_neg ne, tq]
    exact M.1 i hi q q8
theorem come0_M (hl : Lay h) (hn : n ≤ 24) (hm : m ≤ 24) (C : MW0 h n m g S) {i j : Nat} (hi : i ≤ n) (hj : j ≤ m) {act : Nat} (ht : t < S.1.1) (ha : act < 18) : ∃ r g', f_M_isNew g 201 (nI (25 * i + j)) (nI t) (nI act) = some (r, g') ∧ MW0 h n m g' (rch S (i, j, 0, 0) t act) ∧ S.1.1 ≤ (rch S (i, j, 0, 0) t act).1.1 ∧ (∀ a k, ¬ SMk a k → hI g' a k = hI g a k) ∧ ∀ z, z < S.1.1 → (rch S (i, j, 0, 0) t act).2.1 z = S.2.1 z := by
  obtain ⟨⟨r, g'⟩, e, _, f, c⟩ := isNew_M (C.1.lay hl) (cf0 hn hm) C.2 (p := (i, j, 0, 0)) (par := t) (act := act) (pi := nI t) (ai := nI act) ⟨hi, hj, rfl, rfl⟩ (fun _ => ⟨⟨ht, ha⟩, rfl, rfl⟩)
  exact ⟨r, g', e, ⟨C.1.trans (f.mono (fun a k z => Or.inl z)), c⟩, rch_n, fun a k z => f.I z, fun z hz => (rch_P hz).1⟩
end PM0
