/-! READING A PAGE: levels of brackets, steps, what may follow what -/
abbrev Lv := (Nat × Bool × Nat × Nat) × Bool × Nat × Nat × Bool
/-- a reading: how deep, how many steps, a sign that waits, whether the top talk has begun; levels, kinds, follows -/
abbrev PSt := (Nat × Nat × Int32 × Bool) × (Nat → Lv) × (Nat → Nat × Nat) × (Nat → Nat)
def lv0 (br : Nat) : Lv := ((br, false, 0, 0), true, 0, 0, false)
def lnk (fo : Nat → Nat) (n X Y : Nat) (s : Nat) : Nat := if 1 ≤ s ∧ s ≤ n ∧ X.testBit (s - 1) = true then fo s ||| Y else fo s
def top (P : PSt) : Lv := P.2.1 P.1.1
def setTop (f : Nat → Lv) (D : Nat) (l : Lv) : Nat → Lv := fun i => if i = D then l else f i
def apL (l : Lv) (Fi La : Nat) (id : Bool) : Lv := ((l.1.1, l.1.2.1, (if l.2.1 = true then l.1.2.2.1 ||| Fi else l.1.2.2.1), (if id = true then l.1.2.2.2 ||| La else La)), (l.2.1 && id), l.2.2.1, l.2.2.2.1, l.2.2.2.2)
def app (P : PSt) (Fi La : Nat) (id : Bool) : PSt := ((P.1.1, P.1.2.1, P.1.2.2.1, true), setTop P.2.1 P.1.1 (apL (top P) Fi La id), P.2.2.1, lnk P.2.2.2 P.1.2.1 (top P).1.2.2.2 Fi)
def opnP (P : PSt) (br : Nat) : PSt := ((P.1.1 + 1, P.1.2.1, P.1.2.2.1, false), setTop P.2.1 (P.1.1 + 1) (lv0 br), P.2.2)
def gat (l : Lv) : Lv := ((l.1.1, true, 0, 0), true, l.2.2.1 ||| l.1.2.2.1, l.2.2.2.1 ||| l.1.2.2.2, l.2.2.2.2 || l.2.1)
def barP (P : PSt) : PSt := ((P.1.1, P.1.2.1, P.1.2.2.1, false), setTop P.2.1 P.1.1 (gat (top P)), P.2.2)
def dwn (P : PSt) : PSt := ((P.1.1 - 1, P.1.2), P.2)
def clo1 (P : PSt) : PSt := app (dwn P) (gat (top P)).2.2.1 (gat (top P)).2.2.2.1 (gat (top P)).2.2.2.2
def clo2 (P : PSt) : PSt := app (dwn (P.1, P.2.1, P.2.2.1, lnk P.2.2.2 P.1.2.1 (top P).1.2.2.2 (top P).1.2.2.1)) (top P).1.2.2.1 (top P).1.2.2.2 true
def sgnP (P : PSt) (s : Int32) : PSt := ((P.1.1, P.1.2.1, s, P.1.2.2.2), P.2)
def msgP (P : PSt) (g m : Nat) : PSt := app ((P.1.1, P.1.2.1 + 1, -1, P.1.2.2.2), P.2.1, (fun s => if s = P.1.2.1 + 1 then (g, m) else P.2.2.1 s), (fun s => if s = P.1.2.1 + 1 then 0 else P.2.2.2 s)) (2 ^ P.1.2.1) (2 ^ P.1.2.1) false
def acc1 (P : PSt) (c : Nat) : Option PSt :=
  if P.1.2.2.1 = -1 then
    if c = 33 then some (sgnP P 1)
    else if c = 63 then some (sgnP P 0)
    else if c = 48 then some (app P 0 0 true)
    else if c = 40 then some (opnP P 1)
    else if c = 123 then some (opnP P 2)
    else if c = 124 then (if P.1.2.2.2 = true ∧ (top P).1.1 = 1 then some (barP P) else none)
    else if c = 41 then (if P.1.2.2.2 = true ∧ (top P).1.1 = 1 ∧ (top P).1.2.1 = true then some (clo1 P) else none)
    else if c = 125 then (if P.1.2.2.2 = true ∧ (top P).1.1 = 2 then some (clo2 P) else none)
    else none
  else if 97 ≤ c ∧ c ≤ 104 then some (msgP P (tN P.1.2.2.1) (c - 97)) else none
/-- what a reading keeps: k letters have been read -/
def LvB (n : Nat) (l : Lv) : Prop := l.1.1 ≤ 2 ∧ l.1.2.2.1 < 2 ^ n ∧ l.1.2.2.2 < 2 ^ n ∧ l.2.2.1 < 2 ^ n ∧ l.2.2.2.1 < 2 ^ n
def PB (P : PSt) (k : Nat) : Prop := P.1.1 ≤ k ∧ 2 * P.1.2.1 + (if P.1.2.2.1 = -1 then 0 else 1) ≤ k ∧ (P.1.2.2.1 = -1 ∨ P.1.2.2.1 = 0 ∨ P.1.2.2.1 = 1) ∧ (∀ i, i ≤ P.1.1 → LvB P.1.2.1 (P.2.1 i)) ∧ (P.2.1 0).1.1 = 0 ∧ (∀ s, 1 ≤ s → s ≤ P.1.2.1 → (P.2.2.1 s).1 < 2 ∧ (P.2.2.1 s).2 < 8 ∧ P.2.2.2 s < 2 ^ P.1.2.1)
theorem or_lt {a b n : Nat} (ha : a < 2 ^ n) (hb : b < 2 ^ n) : a ||| b < 2 ^ n := Nat.or_lt_two_pow ha hb
theorem LvB.up {n m : Nat} {l : Lv} (h : LvB n l) (e : n ≤ m) : LvB m l := by
  have p : 2 ^ n ≤ 2 ^ m := Nat.pow_le_pow_right (by decide) e
  obtain ⟨a, b, c, d, f⟩ := h
  exact ⟨a, by omega, by omega, by omega, by omega⟩
theorem apL_B {n : Nat} {l : Lv} (h : LvB n l) {Fi La : Nat} (id : Bool) (hF : Fi < 2 ^ n) (hL : La < 2 ^ n) : LvB n (apL l Fi La id) := by
  obtain ⟨a, b, c, d, f⟩ := h
  refine ⟨a, ?_, ?_, d, f⟩
  · show (if l.2.1 = true then l.1.2.2.1 ||| Fi else l.1.2.2.1) < 2 ^ n
    split
    · exact or_lt b hF
    · exact b
  · show (if id = true then l.1.2.2.2 ||| La else La) < 2 ^ n
    split
    · exact or_lt c hL
    · exact hL
theorem gat_B {n : Nat} {l : Lv} (h : LvB n l) : LvB n (gat l) := by
  obtain ⟨a, b, c, d, f⟩ := h
  have z : (0 : Nat) < 2 ^ n := Nat.two_pow_pos n
  exact ⟨a, z, z, or_lt d b, or_lt f c⟩
theorem app_B {P : PSt} {k : Nat} (h : PB P k) {Fi La : Nat} (id : Bool) (hF : Fi < 2 ^ P.1.2.1) (hL : La < 2 ^ P.1.2.1) : PB (app P Fi La id) k := by
  obtain ⟨b1, b2, b3, b4, b5, b6⟩ := h
  refine ⟨b1, b2, b3, fun i hi => ?_, ?_, fun s s1 s2 => ?_⟩
  · show LvB P.1.2.1 (setTop P.2.1 P.1.1 (apL (top P) Fi La id) i)
    unfold setTop
    by_cases z : i = P.1.1
    · rw [if_pos z]; exact apL_B (b4 _ (Nat.le_refl _)) id hF hL
    · rw [if_neg z]; exact b4 i hi
  · show (setTop P.2.1 P.1.1 (apL (top P) Fi La id) 0).1.1 = 0
    unfold setTop
    by_cases z : 0 = P.1.1
    · rw [if_pos z]; show (top P).1.1 = 0; unfold top; rw [← z]; exact b5
    · rw [if_neg z]; exact b5
  · refine ⟨(b6 s s1 s2).1, (b6 s s1 s2).2.1, ?_⟩
    show lnk P.2.2.2 P.1.2.1 (top P).1.2.2.2 Fi s < 2 ^ P.1.2.1
    unfold lnk
    split
    · exact or_lt (b6 s s1 s2).2.2 hF
    · exact (b6 s s1 s2).2.2
theorem PB.up {P : PSt} {k k' : Nat} (h : PB P k) (e : k ≤ k') : PB P k' := ⟨by have := h.1; omega, by have := h.2.1; omega, h.2.2⟩
theorem acc1_B {P P' : PSt} {k c : Nat} (h : PB P k) (e : acc1 P c = some P') : PB P' (k + 1) := by
  have z : ∀ n : Nat, (0 : Nat) < 2 ^ n := fun n => Nat.two_pow_pos n
  obtain ⟨b1, b2, b3, b4, b5, b6⟩ := id h
  unfold acc1 at e
  by_cases q : P.1.2.2.1 = -1
  · rw [if_pos q] at e
    rw [if_pos q] at b2
    have sg : ∀ s : Int32, (s = 0 ∨ s = 1) → PB (sgnP P s) (k + 1) := by
      intro s hs
      refine ⟨by show P.1.1 ≤ k + 1; omega, ?_, Or.inr hs, b4, b5, b6⟩
      show 2 * P.1.2.1 + (if s = -1 then 0 else 1) ≤ k + 1
      split <;> omega
    have op : ∀ br, br ≤ 2 → PB (opnP P br) (k + 1) := by
      intro br hbr
      refine ⟨by show P.1.1 + 1 ≤ k + 1; omega, ?_, Or.inl q, fun i hi => ?_, ?_, b6⟩
      · show 2 * P.1.2.1 + (if P.1.2.2.1 = -1 then 0 else 1) ≤ k + 1
        rw [if_pos q]; omega
      · show LvB P.1.2.1 (setTop P.2.1 (P.1.1 + 1) (lv0 br) i)
        unfold setTop
        by_cases w : i = P.1.1 + 1
        · rw [if_pos w]; exact ⟨hbr, z _, z _, z _, z _⟩
        · rw [if_neg w]; exact b4 i (by have : i ≤ P.1.1 + 1 := hi; omega)
      · show (setTop P.2.1 (P.1.1 + 1) (lv0 br) 0).1.1 = 0
        unfold setTop
        rw [if_neg (by omega)]; exact b5
    split at e
    · cases e; exact sg 1 (Or.inr rfl)
    · split at e
      · cases e; exact sg 0 (Or.inl rfl)
      · split at e
        · cases e; exact (app_B h true (z _) (z _)).up (by omega)
        · split at e
          · cases e; exact op 1 (by decide)
          · split at e
            · cases e; exact op 2 (by decide)
            · split at e
              · split at e
                · cases e
                  rename_i w
                  refine ⟨by show P.1.1 ≤ k + 1; omega, ?_, Or.inl q, fun i hi => ?_, ?_, b6⟩
                  · show 2 * P.1.2.1 + (if P.1.2.2.1 = -1 then 0 else 1) ≤ k + 1
                    rw [if_pos q]; omega
                  · show LvB P.1.2.1 (setTop P.2.1 P.1.1 (gat (top P)) i)
                    unfold setTop
                    by_cases w : i = P.1.1
                    · rw [if_pos w]; exact gat_B (b4 _ (Nat.le_refl _))
                    · rw [if_neg w]; exact b4 i hi
                  · show (setTop P.2.1 P.1.1 (gat (top P)) 0).1.1 = 0
                    unfold setTop
                    by_cases w' : 0 = P.1.1
                    · exfalso
                      have : (P.2.1 0).1.1 = 1 := by have := w.2; unfold top at this; rw [← w'] at this; exact this
                      omega
                    · rw [if_neg w']; exact b5
                · cases e
              · have dn : PB (dwn P) (k + 1) := by
                  refine ⟨by show P.1.1 - 1 ≤ k + 1; omega, ?_, Or.inl q, fun i hi => b4 i (by have : i ≤ P.1.1 - 1 := hi; omega), b5, b6⟩
                  show 2 * P.1.2.1 + (if P.1.2.2.1 = -1 then 0 else 1) ≤ k + 1
                  rw [if_pos q]; omega
                split at e
                · split at e
                  · cases e
                    have g := gat_B (b4 _ (Nat.le_refl _))
                    exact app_B dn _ g.2.2.2.1 g.2.2.2.2
                  · cases e
                · split at e
                  · split at e
                    · cases e
                      have g := b4 _ (Nat.le_refl P.1.1)
                      have dn2 : PB (dwn (P.1, P.2.1, P.2.2.1, lnk P.2.2.2 P.1.2.1 (top P).1.2.2.2 (top P).1.2.2.1)) (k + 1) := by
                        refine ⟨dn.1, dn.2.1, dn.2.2.1, dn.2.2.2.1, b5, fun s s1 s2 => ⟨(b6 s s1 s2).1, (b6 s s1 s2).2.1, ?_⟩⟩
                        show lnk P.2.2.2 P.1.2.1 (top P).1.2.2.2 (top P).1.2.2.1 s < 2 ^ P.1.2.1
                        unfold lnk
                        split
                        · exact or_lt (b6 s s1 s2).2.2 g.2.1
                        · exact (b6 s s1 s2).2.2
                      exact app_B dn2 true g.2.1 g.2.2.1
                    · cases e
                  · cases e
  · rw [if_neg q] at e
    rw [if_neg q] at b2
    split at e
    · cases e
      rename_i w
      have up : 2 ^ P.1.2.1 < 2 ^ (P.1.2.1 + 1) := Nat.pow_lt_pow_right (by decide) (by omega)
      refine app_B (P := ((P.1.1, P.1.2.1 + 1, -1, P.1.2.2.2), P.2.1, (fun s => if s = P.1.2.1 + 1 then (tN P.1.2.2.1, c - 97) else P.2.2.1 s), (fun s => if s = P.1.2.1 + 1 then 0 else P.2.2.2 s))) ⟨by show P.1.1 ≤ k + 1; omega, ?_, Or.inl rfl, fun i hi => (b4 i hi).up (by show P.1.2.1 ≤ P.1.2.1 + 1; omega), b5, fun s s1 s2 => ?_⟩ false up up
      · show 2 * (P.1.2.1 + 1) + (if (-1 : Int32) = -1 then 0 else 1) ≤ k + 1
        rw [if_pos rfl]; omega
      · show (if s = P.1.2.1 + 1 then (tN P.1.2.2.1, c - 97) else P.2.2.1 s).1 < 2 ∧ (if s = P.1.2.1 + 1 then (tN P.1.2.2.1, c - 97) else P.2.2.1 s).2 < 8 ∧ (if s = P.1.2.1 + 1 then 0 else P.2.2.2 s) < 2 ^ (P.1.2.1 + 1)
        by_cases v : s = P.1.2.1 + 1
        · rw [if_pos v, if_pos v]
          refine ⟨?_, by show c - 97 < 8; omega, z _⟩
          show tN P.1.2.2.1 < 2
          rcases b3 with r | r | r
          · exact absurd r q
          · rw [r]; decide
          · rw [r]; decide
        · rw [if_neg v, if_neg v]
          obtain ⟨c1, c2, c3⟩ := b6 s s1 (by have : s ≤ P.1.2.1 + 1 := s2; omega)
          exact ⟨c1, c2, by omega⟩
    · cases e
