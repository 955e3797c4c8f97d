/-! FRAMES: what a call leaves as it was -/
/-- h' is h but for the places S (nothing new) -/
def Fr (S : Nat → Nat → Prop) (h h' : AH) : Prop := hM h' = hM h ∧ hZ h' = hZ h ∧ (∀ a, hK h' a = hK h a) ∧ ∀ a k, ¬ S a k → hI h' a k = hI h a k ∧ hJ h' a k = hJ h a k ∧ hR h' a k = hR h a k
/-- h' holds at the places S what h holds there, and all that h has made -/
def Ag (S : Nat → Nat → Prop) (h h' : AH) : Prop := hM h ≤ hM h' ∧ (∀ a, a < hM h → hK h' a = hK h a) ∧ ∀ a k, a < hM h → S a k → hI h' a k = hI h a k ∧ hJ h' a k = hJ h a k ∧ hR h' a k = hR h a k
theorem Fr.rfl' {S : Nat → Nat → Prop} {h : AH} : Fr S h h := ⟨rfl, rfl, fun _ => rfl, fun _ _ _ => ⟨rfl, rfl, rfl⟩⟩
theorem Fr.trans {S : Nat → Nat → Prop} {h h1 h2 : AH} (f : Fr S h h1) (g : Fr S h1 h2) : Fr S h h2 :=
  ⟨g.1.trans f.1, g.2.1.trans f.2.1, fun a => (g.2.2.1 a).trans (f.2.2.1 a), fun a k hs => ⟨(g.2.2.2 a k hs).1.trans (f.2.2.2 a k hs).1, (g.2.2.2 a k hs).2.1.trans (f.2.2.2 a k hs).2.1, (g.2.2.2 a k hs).2.2.trans (f.2.2.2 a k hs).2.2⟩⟩
theorem Fr.mono {S T : Nat → Nat → Prop} {h h' : AH} (f : Fr S h h') (hs : ∀ a k, S a k → T a k) : Fr T h h' := ⟨f.1, f.2.1, f.2.2.1, fun a k q => f.2.2.2 a k (fun z => q (hs a k z))⟩
theorem Fr.uI {S : Nat → Nat → Prop} {h : AH} {a k : Nat} {v : Int32} (hs : S a k) : Fr S h (uI h a k v) := by
  refine ⟨rfl, rfl, fun _ => rfl, fun b j q => ⟨?_, rfl, rfl⟩⟩
  show (if b = a ∧ j = k then v else hI h b j) = _
  rw [if_neg (fun z => q (by rw [z.1, z.2]; exact hs))]
theorem Fr.uJ {S : Nat → Nat → Prop} {h : AH} {a k : Nat} {v : Int64} (hs : S a k) : Fr S h (uJ h a k v) := by
  refine ⟨rfl, rfl, fun _ => rfl, fun b j q => ⟨rfl, ?_, rfl⟩⟩
  show (if b = a ∧ j = k then v else hJ h b j) = _
  rw [if_neg (fun z => q (by rw [z.1, z.2]; exact hs))]
theorem Fr.uR {S : Nat → Nat → Prop} {h : AH} {a k : Nat} {v : Option Nat} (hs : S a k) : Fr S h (uR h a k v) := by
  refine ⟨rfl, rfl, fun _ => rfl, fun b j q => ⟨rfl, rfl, ?_⟩⟩
  show (if b = a ∧ j = k then v else hR h b j) = _
  rw [if_neg (fun z => q (by rw [z.1, z.2]; exact hs))]
theorem Fr.uIr {S : Nat → Nat → Prop} {h : AH} {a : Nat} {f : Nat → Int32} (hs : ∀ k, S a k) : Fr S h (uIr h a f) := by
  refine ⟨rfl, rfl, fun _ => rfl, fun b j q => ⟨?_, rfl, rfl⟩⟩
  show (if b = a then f j else hI h b j) = _
  rw [if_neg (fun z => q (by rw [z]; exact hs j))]
theorem Fr.uJr {S : Nat → Nat → Prop} {h : AH} {a : Nat} {f : Nat → Int64} (hs : ∀ k, S a k) : Fr S h (uJr h a f) := by
  refine ⟨rfl, rfl, fun _ => rfl, fun b j q => ⟨rfl, ?_, rfl⟩⟩
  show (if b = a then f j else hJ h b j) = _
  rw [if_neg (fun z => q (by rw [z]; exact hs j))]
theorem Fr.ag {S T : Nat → Nat → Prop} {h h' : AH} (f : Fr S h h') (hd : ∀ a k, T a k → ¬ S a k) : Ag T h h' := ⟨Nat.le_of_eq f.1.symm, fun a _ => f.2.2.1 a, fun a k _ ht => f.2.2.2 a k (hd a k ht)⟩
/-- the layout stays, where no final reference is written -/
theorem Fr.lay {S : Nat → Nat → Prop} {h h' : AH} (f : Fr S h h') (hl : Lay h) (hd : ∀ q ∈ rTab, ¬ S q.1 q.2.1) (h4 : ∀ a k, S a k → 4 ≤ a) : Lay h' := by
  obtain ⟨l1, l2, ⟨l3, l4, l5⟩, l6, l7, l8, l9⟩ := hl
  refine ⟨fun a a1 a2 => (f.2.2.1 a).trans (l1 a a1 a2), fun q hq => (f.2.2.2 _ _ (hd q hq)).2.2.trans (l2 q hq), ⟨(f.2.2.1 0).trans l3, (f.2.2.1 1).trans l4, (f.2.2.1 2).trans l5⟩, fun k hk => ?_, fun k hk => ?_, fun k hk => ?_, by rw [f.1]; exact l9⟩
  · rw [(f.2.2.2 0 k (fun q => absurd (h4 _ _ q) (by decide))).1]; exact l6 k hk
  · rw [(f.2.2.2 1 k (fun q => absurd (h4 _ _ q) (by decide))).1]; exact l7 k hk
  · rw [(f.2.2.2 2 k (fun q => absurd (h4 _ _ q) (by decide))).2.1]; exact l8 k hk
def FTalk (a k : Nat) : Prop := (a = 4 ∧ k = 2) ∨ a = 91 ∨ (a = 201 ∧ k = 2) ∨ a = 203 ∨ a = 204 ∨ a = 205 ∨ 237 ≤ a
def FPage (a k : Nat) : Prop := (a = 5 ∧ k = 1) ∨ a = 6 ∨ (a = 201 ∧ k = 0) ∨ a = 202
def FHelp (a k : Nat) : Prop := (a = 107 ∧ k = 1) ∨ (a = 201 ∧ k = 9) ∨ a = 108 ∨ (206 ≤ a ∧ a ≤ 209) ∨ 237 ≤ a
def FLev (a _ : Nat) : Prop := a = 109 ∨ a = 210
def FRow (a k : Nat) : Prop := (a = 107 ∧ k = 4) ∨ (a = 201 ∧ k = 15) ∨ a = 110 ∨ a = 211
def FCnt (a k : Nat) : Prop := (a = 4 ∧ (k = 6 ∨ k = 7 ∨ k = 9)) ∨ (a = 201 ∧ (k = 6 ∨ k = 7 ∨ k = 8))
def FJoin (a k : Nat) : Prop := (a = 92 ∧ (k = 3 ∨ k = 7)) ∨ a = 97 ∨ (a = 201 ∧ (k = 35 ∨ k = 36)) ∨ a = 224
def FLog (a k : Nat) : Prop := (a = 135 ∧ k = 1) ∨ (a = 201 ∧ (k = 17 ∨ k = 18)) ∨ a = 212 ∨ a = 213 ∨ (140 ≤ a ∧ a ≤ 200) ∨ (206 ≤ a ∧ a ≤ 208)
section AGS
variable {h h' : AH}
theorem RPage.ag {pn : Nat} {pg : Nat → Nat} (r : RPage h pn pg) (hm : 237 ≤ hM h) (f : Ag FPage h h') : RPage h' pn pg := by
  obtain ⟨r1, r2, r3, r4⟩ := r
  refine ⟨r1, ?_, ?_, fun i hi => ?_⟩
  · rw [(f.2.2 5 1 (by omega) (Or.inl ⟨rfl, rfl⟩)).1]; exact r2
  · rw [(f.2.2 201 0 (by omega) (Or.inr (Or.inr (Or.inl ⟨rfl, rfl⟩)))).1]; exact r3
  · rw [(f.2.2 6 i (by omega) (Or.inr (Or.inl rfl))).1, (f.2.2 202 i (by omega) (Or.inr (Or.inr (Or.inr rfl)))).1]; exact r4 i hi
theorem TK.ag {t a n : Nat} (r : TK h t a n) (hm : 237 ≤ hM h) (f : Ag FTalk h h') : TK h' t a n := by
  obtain ⟨r1, r2, r3, ⟨r4, r5, r6, r7⟩, ⟨r8, r9, r10⟩, r11, r12, r13, r14, r15, r16⟩ := r
  have big : ∀ b k, 237 ≤ b → b < hM h → FTalk b k := fun b k hb _ => Or.inr (Or.inr (Or.inr (Or.inr (Or.inr (Or.inr hb)))))
  have e1 : nx h' = nx h := by
    funext t s k
    exact (f.2.2 204 _ (by omega) (Or.inr (Or.inr (Or.inr (Or.inr (Or.inl rfl)))))).1
  have e2 : en h' = en h := by
    funext t s
    exact (f.2.2 205 _ (by omega) (Or.inr (Or.inr (Or.inr (Or.inr (Or.inr (Or.inl rfl))))))).1
  have eI : ∀ b k, 237 ≤ b → b < hM h → hI h' b k = hI h b k := fun b k h1 h2 => (f.2.2 b k h2 (big b k h1 h2)).1
  have eR : ∀ b k, 237 ≤ b → b < hM h → hR h' b k = hR h b k := fun b k h1 h2 => (f.2.2 b k h2 (big b k h1 h2)).2.2
  have hm' := f.1
  refine ⟨r1, r2, by omega, ⟨?_, ?_, ?_, ?_⟩, ⟨?_, ?_, ?_⟩, ?_, ?_, fun s hs k hk => ?_, fun s hs => ?_, ?_, fun s hs => ?_⟩
  · rw [f.2.1 _ (by omega)]; exact r4
  · rw [f.2.1 _ (by omega)]; exact r5
  · rw [f.2.1 _ (by omega)]; exact r6
  · rw [f.2.1 _ (by omega)]; exact r7
  · rw [eR _ _ (by omega) (by omega)]; exact r8
  · rw [eR _ _ (by omega) (by omega)]; exact r9
  · rw [eR _ _ (by omega) (by omega)]; exact r10
  · rw [eI _ _ (by omega) (by omega)]; exact r11
  · rw [(f.2.2 203 t (by omega) (Or.inr (Or.inr (Or.inr (Or.inl rfl))))).1]; exact r12
  · rw [eI _ _ (by omega) (by omega), e1]; exact r13 s hs k hk
  · rw [e2]; exact r14 s hs
  · rw [eI _ _ (by omega) (by omega), e2]; exact r15
  · rw [eI _ _ (by omega) (by omega), eI _ _ (by omega) (by omega), e1]; exact r16 s hs
theorem RTalks.ag {tn : Nat} {ta ts : Nat → Nat} (r : RTalks h tn ta ts) (hm : 237 ≤ hM h) (f : Ag FTalk h h') : RTalks h' tn ta ts := by
  obtain ⟨r1, r2, r3, r4⟩ := r
  refine ⟨r1, ?_, ?_, fun t ht => ⟨?_, (r4 t ht).2.ag hm f⟩⟩
  · rw [(f.2.2 4 2 (by omega) (Or.inl ⟨rfl, rfl⟩)).1]; exact r2
  · rw [(f.2.2 201 2 (by omega) (Or.inr (Or.inr (Or.inl ⟨rfl, rfl⟩)))).1]; exact r3
  · rw [(f.2.2 91 t (by omega) (Or.inr (Or.inl rfl))).2.2]; exact (r4 t ht).1
theorem HP.ag {hn s a : Nat} (r : HP h hn s a) (hm : 237 ≤ hM h) (f : Ag FHelp h h') : HP h' hn s a := by
  obtain ⟨r1, r2, r3, r4, r5, r6, r7, r8, r9, r10⟩ := r
  have big : ∀ b k, 237 ≤ b → FHelp b k := fun b k hb => Or.inr (Or.inr (Or.inr (Or.inr hb)))
  have mid : ∀ b k, 206 ≤ b → b ≤ 209 → hI h' b k = hI h b k := fun b k h1 h2 => (f.2.2 b k (by omega) (Or.inr (Or.inr (Or.inr (Or.inl ⟨h1, h2⟩))))).1
  have eI : ∀ k, hI h' (a + 1) k = hI h (a + 1) k := fun k => (f.2.2 _ k (by omega) (big _ k (by omega))).1
  have hm' := f.1
  refine ⟨r1, by omega, ?_, ?_, ?_, fun w hw => ?_, ?_, ?_, ?_, ?_⟩
  · rw [f.2.1 _ (by omega)]; exact r3
  · rw [f.2.1 _ (by omega)]; exact r4
  · rw [(f.2.2 a 0 (by omega) (big _ _ r1)).2.2]; exact r5
  · rw [eI, mid _ _ (by omega) (by omega)]; exact r6 w hw
  · rw [eI, mid _ _ (by omega) (by omega)]; exact r7
  · rw [eI, mid _ _ (by omega) (by omega)]; exact r8
  · rw [eI, mid _ _ (by omega) (by omega)]; exact r9
  · simp only [mid 209 _ (by omega) (by omega), mid 206 _ (by omega) (by omega), mid 207 _ (by omega) (by omega), mid 208 _ (by omega) (by omega)]
    exact r10
theorem RHelp.ag {hn : Nat} {ha : Nat → Nat} (r : RHelp h hn ha) (hm : 237 ≤ hM h) (f : Ag FHelp h h') : RHelp h' hn ha := by
  obtain ⟨r1, r2, r3, r4⟩ := r
  refine ⟨r1, ?_, ?_, fun s hs => ⟨?_, (r4 s hs).2.ag hm f⟩⟩
  · rw [(f.2.2 107 1 (by omega) (Or.inl ⟨rfl, rfl⟩)).1]; exact r2
  · rw [(f.2.2 201 9 (by omega) (Or.inr (Or.inl ⟨rfl, rfl⟩))).1]; exact r3
  · rw [(f.2.2 108 s (by omega) (Or.inr (Or.inr (Or.inl rfl)))).2.2]; exact (r4 s hs).1
theorem RLev.ag (r : RLev h) (hm : 237 ≤ hM h) (f : Ag FLev h h') : RLev h' := by
  intro i hi
  rw [(f.2.2 109 i (by omega) (Or.inl rfl)).1, (f.2.2 210 i (by omega) (Or.inr rfl)).1]
  exact r i hi
theorem RRow.ag {hn rn : Nat} (r : RRow h hn rn) (hm : 237 ≤ hM h) (f : Ag FRow h h') : RRow h' hn rn := by
  obtain ⟨r1, r2, r3, r4⟩ := r
  refine ⟨r1, ?_, ?_, fun i hi => ?_⟩
  · rw [(f.2.2 107 4 (by omega) (Or.inl ⟨rfl, rfl⟩)).1]; exact r2
  · rw [(f.2.2 201 15 (by omega) (Or.inr (Or.inl ⟨rfl, rfl⟩))).1]; exact r3
  · rw [(f.2.2 110 i (by omega) (Or.inr (Or.inr (Or.inl rfl)))).1, (f.2.2 211 i (by omega) (Or.inr (Or.inr (Or.inr rfl)))).1]; exact r4 i hi
theorem RCnt.ag (r : RCnt h) (hm : 237 ≤ hM h) (f : Ag FCnt h h') : RCnt h' := by
  unfold RCnt
  rw [(f.2.2 4 6 (by omega) (Or.inl ⟨rfl, Or.inl rfl⟩)).1, (f.2.2 4 7 (by omega) (Or.inl ⟨rfl, Or.inr (Or.inl rfl)⟩)).1, (f.2.2 4 9 (by omega) (Or.inl ⟨rfl, Or.inr (Or.inr rfl)⟩)).1, (f.2.2 201 6 (by omega) (Or.inr ⟨rfl, Or.inl rfl⟩)).1, (f.2.2 201 7 (by omega) (Or.inr ⟨rfl, Or.inr (Or.inl rfl)⟩)).1, (f.2.2 201 8 (by omega) (Or.inr ⟨rfl, Or.inr (Or.inr rfl)⟩)).1]
  exact r
theorem RJoin.ag (r : RJoin h) (hm : 237 ≤ hM h) (f : Ag FJoin h h') : RJoin h' := by
  obtain ⟨r1, n, r2, r3, r4, r5⟩ := r
  unfold RJoin
  rw [(f.2.2 92 3 (by omega) (Or.inl ⟨rfl, Or.inl rfl⟩)).1, (f.2.2 92 7 (by omega) (Or.inl ⟨rfl, Or.inr rfl⟩)).1, (f.2.2 201 35 (by omega) (Or.inr (Or.inr (Or.inl ⟨rfl, Or.inl rfl⟩)))).1, (f.2.2 201 36 (by omega) (Or.inr (Or.inr (Or.inl ⟨rfl, Or.inr rfl⟩)))).1]
  refine ⟨r1, n, r2, r3, r4, fun i hi => ?_⟩
  rw [(f.2.2 97 i (by omega) (Or.inr (Or.inl rfl))).1, (f.2.2 224 i (by omega) (Or.inr (Or.inr (Or.inr rfl)))).1]
  exact r5 i hi
theorem wld_ag (hm : 237 ≤ hM h) (f : Ag FLog h h') : wld h' = wld h := by
  have e1 : ∀ b k, (b = 212 ∨ b = 213 ∨ (206 ≤ b ∧ b ≤ 208)) → hI h' b k = hI h b k := fun b k hb => (f.2.2 b k (by omega) (by unfold FLog; omega)).1
  have e2 : hI h' 201 17 = hI h 201 17 := (f.2.2 201 17 (by omega) (by unfold FLog; omega)).1
  have e3 : ∀ e S, stepW h' e S = stepW h e S := by
    intro e S
    have eo : ofN h' e = ofN h e := by unfold ofN; rw [e1 213 _ (by omega)]
    unfold stepW
    rw [eo, e1 212 _ (by omega), e1 206 _ (by omega), e1 207 _ (by omega), e1 208 _ (by omega)]
  funext t
  induction t with
  | zero => funext w; show decide (hI h' 201 17 = nI w) = decide (hI h 201 17 = nI w); rw [e2]
  | succ t ih => show stepW h' t (wld h' t) = stepW h t (wld h t); rw [ih, e3]
theorem RLog.ag {hn ev : Nat} (r : RLog h hn ev) (hm : 237 ≤ hM h) (f : Ag FLog h h') : RLog h' hn ev := by
  obtain ⟨r1, r2, r3, r4, r5, r6⟩ := r
  refine ⟨r1, ?_, ?_, ?_, fun e he => ?_, fun t ht w hw => ?_⟩
  · rw [(f.2.2 135 1 (by omega) (by unfold FLog; omega)).1]; exact r2
  · rw [(f.2.2 201 18 (by omega) (by unfold FLog; omega)).1]; exact r3
  · rw [(f.2.2 201 17 (by omega) (by unfold FLog; omega)).1]; exact r4
  · rw [(f.2.2 212 e (by omega) (by unfold FLog; omega)).1, (f.2.2 213 e (by omega) (by unfold FLog; omega)).1]; exact r5 e he
  · rw [(f.2.2 (140 + 2 * t) (w / 64) (by omega) (by unfold FLog; omega)).2.1, wld_ag hm f]; exact r6 t ht w hw
end AGS
