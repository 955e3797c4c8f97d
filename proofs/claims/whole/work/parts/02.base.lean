/-! THE ABSTRACT HEAP: (next free address, slots made so far, kinds, ints, longs, references).
Addresses 0, 1, 2: the static tables; 3: the script; from 4 on: what the run has made. A kind: (1 int, 2 boolean, 3 byte, 4 long, 10 + c references to c; length) or (100 + c, 0) an object of c. -/
abbrev AH : Type := Nat × Nat × (Nat → Nat × Nat) × (Nat → Nat → Int32) × (Nat → Nat → Int64) × (Nat → Nat → Option Nat)
def hM (h : AH) : Nat := h.1
def hZ (h : AH) : Nat := h.2.1
def hK (h : AH) (a : Nat) : Nat × Nat := h.2.2.1 a
def hI (h : AH) (a k : Nat) : Int32 := h.2.2.2.1 a k
def hJ (h : AH) (a k : Nat) : Int64 := h.2.2.2.2.1 a k
def hR (h : AH) (a k : Nat) : Option Nat := h.2.2.2.2.2 a k
def uI (h : AH) (a k : Nat) (v : Int32) : AH := (h.1, h.2.1, h.2.2.1, fun x y => if x = a ∧ y = k then v else h.2.2.2.1 x y, h.2.2.2.2.1, h.2.2.2.2.2)
def uJ (h : AH) (a k : Nat) (v : Int64) : AH := (h.1, h.2.1, h.2.2.1, h.2.2.2.1, fun x y => if x = a ∧ y = k then v else h.2.2.2.2.1 x y, h.2.2.2.2.2)
def uR (h : AH) (a k : Nat) (v : Option Nat) : AH := (h.1, h.2.1, h.2.2.1, h.2.2.2.1, h.2.2.2.2.1, fun x y => if x = a ∧ y = k then v else h.2.2.2.2.2 x y)
/-- a new cell of kind q that takes n slots -/
def uN' (h : AH) (q : Nat × Nat) (n : Nat) : AH := (h.1 + 1, h.2.1 + n, fun x => if x = h.1 then q else h.2.2.1 x, fun x y => if x = h.1 then 0 else h.2.2.2.1 x y, fun x y => if x = h.1 then 0 else h.2.2.2.2.1 x y, fun x y => if x = h.1 then none else h.2.2.2.2.2 x y)
/-- one row of ints, of longs put anew -/
def uIr (h : AH) (a : Nat) (f : Nat → Int32) : AH := (h.1, h.2.1, h.2.2.1, fun x y => if x = a then f y else h.2.2.2.1 x y, h.2.2.2.2.1, h.2.2.2.2.2)
def uJr (h : AH) (a : Nat) (f : Nat → Int64) : AH := (h.1, h.2.1, h.2.2.1, h.2.2.2.1, fun x y => if x = a then f y else h.2.2.2.2.1 x y, h.2.2.2.2.2)
/-! what the program does with it: none where the machine would throw -/
def gI (c : Nat) (h : AH) (a k : Nat) : Option Int32 := if hK h a = (100 + c, 0) then some (hI h a k) else none
def gJ (c : Nat) (h : AH) (a k : Nat) : Option Int64 := if hK h a = (100 + c, 0) then some (hJ h a k) else none
def gR (c : Nat) (h : AH) (a k : Nat) : Option (Option Nat) := if hK h a = (100 + c, 0) then some (hR h a k) else none
def pI (c : Nat) (h : AH) (a k : Nat) (v : Int32) : Option AH := if hK h a = (100 + c, 0) then some (uI h a k v) else none
def pZ (c : Nat) (h : AH) (a k : Nat) (v : Int32) : Option AH := if hK h a = (100 + c, 0) ∧ (v = 0 ∨ v = 1) then some (uI h a k v) else none
def pJ (c : Nat) (h : AH) (a k : Nat) (v : Int64) : Option AH := if hK h a = (100 + c, 0) then some (uJ h a k v) else none
def pR (c : Nat) (h : AH) (a k : Nat) (v : Option Nat) : Option AH := if hK h a = (100 + c, 0) then some (uR h a k v) else none
def ix (d : Nat) (h : AH) (a : Nat) (i : Int32) : Option Nat := if (hK h a).1 = d ∧ ¬ i < 0 ∧ i.toNatClampNeg < (hK h a).2 then some i.toNatClampNeg else none
def rI (d : Nat) (h : AH) (a : Nat) (i : Int32) : Option Int32 := (ix d h a i).bind fun j => some (hI h a j)
def rJ (h : AH) (a : Nat) (i : Int32) : Option Int64 := (ix 4 h a i).bind fun j => some (hJ h a j)
def rR (c : Nat) (h : AH) (a : Nat) (i : Int32) : Option (Option Nat) := (ix (10 + c) h a i).bind fun j => some (hR h a j)
def wI (h : AH) (a : Nat) (i v : Int32) : Option AH := if 4 ≤ a then (ix 1 h a i).bind fun j => some (uI h a j v) else none
def wZ (h : AH) (a : Nat) (i v : Int32) : Option AH := if 4 ≤ a then (ix 2 h a i).bind fun j => some (uI h a j (v &&& 1)) else none
def wB (h : AH) (a : Nat) (i v : Int32) : Option AH := if 4 ≤ a then (ix 3 h a i).bind fun j => some (uI h a j v.toInt8.toInt32) else none
def wJ (h : AH) (a : Nat) (i : Int32) (v : Int64) : Option AH := if 4 ≤ a then (ix 4 h a i).bind fun j => some (uJ h a j v) else none
def wR (c : Nat) (h : AH) (a : Nat) (i : Int32) (v : Option Nat) : Option AH := if (∀ x ∈ v, hK h x = (100 + c, 0)) then (ix (10 + c) h a i).bind fun j => some (uR h a j v) else none
def nO (c : Nat) (h : AH) : AH := uN' h (100 + c, 0) (znf c)
def nAr (d : Nat) (h : AH) (n : Int32) : Option AH := if ¬ n < 0 ∧ n.toNatClampNeg ≤ 1000000 then some (uN' h (d, n.toNatClampNeg) n.toNatClampNeg) else none
def aln (h : AH) (a : Nat) : Int32 := Int32.ofNat (hK h a).2
def alen (d : Nat) (h : AH) (a : Nat) : Option Int32 := if (hK h a).1 = d then some (Int32.ofNat (hK h a).2) else none
def cpI (h : AH) (a : Nat) (i : Int32) (b : Nat) (j n : Int32) : Option AH :=
  if (hK h a).1 = 1 ∧ (hK h b).1 = 1 ∧ 4 ≤ a ∧ 4 ≤ b ∧ ¬ i < 0 ∧ ¬ j < 0 ∧ ¬ n < 0 ∧ i.toNatClampNeg + n.toNatClampNeg ≤ (hK h a).2 ∧ j.toNatClampNeg + n.toNatClampNeg ≤ (hK h b).2 then some (uIr h b (va_cpy (hI h a) (hI h b) i.toNatClampNeg j.toNatClampNeg n.toNatClampNeg)) else none
def cpJ (h : AH) (a : Nat) (i : Int32) (b : Nat) (j n : Int32) : Option AH :=
  if (hK h a).1 = 4 ∧ (hK h b).1 = 4 ∧ 4 ≤ a ∧ 4 ≤ b ∧ ¬ i < 0 ∧ ¬ j < 0 ∧ ¬ n < 0 ∧ i.toNatClampNeg + n.toNatClampNeg ≤ (hK h a).2 ∧ j.toNatClampNeg + n.toNatClampNeg ≤ (hK h b).2 then some (uJr h b (va_cpy (hJ h a) (hJ h b) i.toNatClampNeg j.toNatClampNeg n.toNatClampNeg)) else none
/-! THE LINK to the machine's heap -/
abbrev EN : Type := va_G × (Nat → ClassId) × Nat × (Nat → Nat) × AH
def eD (E : EN) : va_G := E.1
def eA (E : EN) : Nat → ClassId := E.2.1
def eN (E : EN) : Nat := E.2.2.1
def eS (E : EN) : Nat → Nat := E.2.2.2.1
def eH (E : EN) : AH := E.2.2.2.2
/-- where an address of ours lies in the machine -/
def ad (E : EN) (a : Nat) : Nat := if a < 4 then eS E a else eN E + (a - 4)
def vr (E : EN) : Value → Value
  | .ref a => .ref (ad E a)
  | v => v
/-- what may be written: what was made since the start -/
def fr (E : EN) : Nat → Prop := fun q => eN E ≤ q
def fvl (E : EN) (h : AH) (a t k : Nat) : Value := match t with
  | 2 => .long (hJ h a k)
  | 3 => va_rf ((hR h a k).map (ad E))
  | _ => .int (hI h a k)
def fls (E : EN) (h : AH) (a c : Nat) : List Value := (List.range (znf c)).map (fun k => fvl E h a (zso c k) k)
def arr (E : EN) (h : AH) (a d : Nat) : (Nat → Int32) ⊕ (Nat → Int64) ⊕ (Nat → UInt32) ⊕ (Nat → UInt64) ⊕ (Nat → Option Nat) :=
  if d = 4 then .inr (.inl (hJ h a)) else if d < 4 then .inl (hI h a) else .inr (.inr (.inr (.inr (fun i => (hR h a i).map (ad E)))))
def cel (E : EN) (h : AH) (a : Nat) : va_E :=
  if (hK h a).1 < 100 then .inl (eA E (hK h a).1, (hK h a).2, arr E h a (hK h a).1) else .inr ((hK h a).1 - 100, fls E h a ((hK h a).1 - 100))
def kty : Nat → FieldType := fun d => match d with
  | 1 => .int
  | 2 => .boolean
  | 3 => .byte
  | 4 => .long
  | 13 => .object "HelperWeave$Going"
  | 14 => .object "HelperWeave$Helper"
  | 15 => .object "HelperWeave$Level"
  | 19 => .object "HelperWeave$Talk"
  | _ => .object "HelperWeave$Worlds"
def kds : List Nat := [1, 2, 3, 4, 13, 14, 15, 19, 21]
def tys (E : EN) : List (ClassId × FieldType) := kds.map (fun d => (eA E d, kty d))
theorem tys_at (E : EN) {d : Nat} (h : d ∈ kds) : ∃ t0 : Nat, (tys E)[t0]? = some (eA E d, kty d) := List.getElem?_of_mem (List.mem_map.mpr ⟨d, h, rfl⟩)
def zao : List String := ["HelperWeave$Going", "HelperWeave$Helper", "HelperWeave$Level", "HelperWeave$Talk", "HelperWeave$Worlds"]
def RK (E : EN) (U : State) : Prop := va_K (eD E) zcl (tys E) U ∧ (∀ w ∈ znw, va_Nw w U) ∧
  (va_Z "HelperWeave" "LEAST_TRAIT" "[I" (.ref (eS E 0)) (fr E) U U.heap ∧ va_Z "HelperWeave" "GREATEST_TRAIT" "[I" (.ref (eS E 1)) (fr E) U U.heap ∧ va_Z "HelperWeave" "WITH_FACT" "[J" (.ref (eS E 2)) (fr E) U U.heap) ∧
  (∀ a, a < 4 → a ≠ 2 → va_T .int (eS E a) (hK (eH E) a).2 (fun j => .int (hI (eH E) a j)) (fr E) U U.heap) ∧ va_T .long (eS E 2) (hK (eH E) 2).2 (fun j => .long (hJ (eH E) 2 j)) (fr E) U U.heap ∧ ∀ C ∈ zao, va_AO C U
def RH (E : EN) (h : AH) (H : Heap) : Prop := 4 ≤ hM h ∧ H.size = eN E + (hM h - 4) ∧ (∀ a, 4 ≤ a → a < hM h → va_at (eD E) zcl (ad E a, cel E h a) H) ∧ (∀ a, hM h ≤ a → hK h a = (0, 0)) ∧
  (∀ a, a < 4 → hK h a = hK (eH E) a ∧ hI h a = hI (eH E) a ∧ hJ h a = hJ (eH E) a) ∧ (∀ a, a < 4 → (hK h a).1 = if a = 2 then 4 else 1)
def LH (E : EN) (ls : Array Slot) (L : List (Option Value)) : Prop := ls.size = L.length ∧ lv_wf ls ∧ ∀ (i : Nat) (v : Value), L[i]? = some (some v) → ls[i]? = some (.val (vr E v))
abbrev MI : Type := MethodName × ByteArray × Nat × Option FieldType
def FX (E : EN) (mi : MI) (p : Program) (s : State) (m : MethodId) (args : Array Value) (meth : Method) (c : Code) : Prop :=
  p.tables.exec = Jvm.exec ∧ c.code = mi.2.1 ∧ c.maxLocals = mi.2.2.1 ∧ meth.sig.returnType = mi.2.2.2 ∧ meth.locks = false ∧ s.vm.findClass mi.1.cls = some m.cls ∧ (mi.1.name = "<init>" → meth.name = "<init>") ∧ (∀ w ∈ zgw, w.before args s = true) ∧ RK E s ∧ eN E ≤ s.heap.size
abbrev QF : Type := List Frame → Array Value → State → State → Prop
/-- THE JUDGEMENT: wherever this abstract state stands, the machine comes to its end -/
def AW (l : Launch) (E : EN) (mi : MI) (R : Room) (B : (Nat × Nat) × (Nat × Nat)) (Qf : QF) (pc : Nat) (L : List (Option Value)) (st : List Value) (h : AH) : Prop :=
  (hM h ≤ B.2.1 ∧ hZ h ≤ B.2.2 ∧ B.2.1 ≤ B.1.1 + R.cells ∧ B.2.2 ≤ B.1.2 + R.slots) ∧ (B.1.1 ≤ hM h → B.1.2 ≤ hZ h → L.length = mi.2.2.1 → ∀ (p : Program) (e : Env) (s : State) (m : MethodId) (args : Array Value) (below : List Frame) (meth : Method) (c : Code) (H : Heap) (locs : List Loc) (ls : Array Slot),
    FX E mi p s m args meth c → RH E h H → va_S (fr E) s.heap H locs → LH E ls L →
    W p l e R s m args below meth c H locs (hM h - B.1.1) (hZ h - B.1.2) (Qf below args s) (F0 m pc ls (st.map (vr E))))
def rmOf (d : Nat) (B : (Nat × Nat) × (Nat × Nat)) : Room := { frames := d, cells := B.2.1 - B.1.1, slots := B.2.2 - B.1.2, locals := 64 * d }
def bOf (h hf : AH) : (Nat × Nat) × (Nat × Nat) := ((hM h, hZ h), (hM hf, hZ hf))
def Qc (E : EN) (rf : Option Value) (hf : AH) : Array Value → State → Outcome → State → Prop := fun _ st oc t => oc = .returned (rf.map (vr E)) ∧ RH E hf t.heap ∧ va_F (fr E) st t
def Pc (E : EN) (av : List Value) (h : AH) : Array Value → State → Prop := fun v U => v = (av.map (vr E)).toArray ∧ RK E U ∧ RH E h U.heap
/-- A METHOD'S CONTRACT: from these arguments and this heap it returns rf and leaves hf -/
def AM (l : Launch) (E : EN) (d : Nat) (mi : MI) (av : List Value) (h : AH) (rf : Option Value) (hf : AH) : Prop := (hM h ≤ hM hf ∧ hZ h ≤ hZ hf) ∧
  Met l mi.1 (.code mi.1 mi.2.1 mi.2.2.1 mi.2.2.2 :: zgw) (rmOf d (bOf h hf)) (Pc E av h) (Qc E rf hf) (hM hf - hM h) (hZ hf - hZ h) (fr E)
/-- the end that a method's walk must reach -/
def MF (E : EN) (B : (Nat × Nat) × (Nat × Nat)) (rf : Option Value) (hf : AH) : QF := fun below args s => MQ below (Qc E rf hf) args s (hM hf - B.1.1) (hZ hf - B.1.2) (fr E)
/-! small facts -/
theorem vr_cat (E : EN) (v : Value) : (vr E v).category = v.category := by cases v <;> rfl
theorem vr_rf (E : EN) (r : Option Nat) : vr E (va_rf r) = va_rf (r.map (ad E)) := by cases r <;> rfl
theorem vr_sum (E : EN) (st : List Value) : ((st.map (vr E)).map fun v => v.category).sum = (st.map fun v => v.category).sum := by
  induction st with
  | nil => rfl
  | cons v st ih => simp only [List.map_cons, List.sum_cons, ih, vr_cat]
theorem ad_ge {E : EN} {a : Nat} (h : 4 ≤ a) : ad E a = eN E + (a - 4) := by unfold ad; rw [if_neg (by omega)]
theorem ad_fr {E : EN} {a : Nat} (h : 4 ≤ a) : fr E (ad E a) := by rw [ad_ge h]; unfold fr; omega
theorem ad_inj {E : EN} {a b : Nat} (ha : 4 ≤ a) (hb : 4 ≤ b) (h : ad E a = ad E b) : a = b := by rw [ad_ge ha, ad_ge hb] at h; omega
theorem RK.moved {E : EN} {s U : State} {H : Heap} {locs : List Loc} (h : RK E s) (hS : va_S (fr E) s.heap H locs) (hU : U.heap = H) (hW : s.WarmedH U.vm) : RK E U := by
  obtain ⟨h1, h2, ⟨z1, z2, z3⟩, h4, h5, h6⟩ := h
  have hk : ∀ q : Nat, q < s.heap.size → ¬ fr E q → U.heap[q]? = s.heap[q]? := fun q a b => by rw [hU]; exact hS.2.1 q a b
  refine ⟨va_K.moved hW.alike h1, fun w hw => ?_, ⟨(z1.moved hW.alike).kept hk, (z2.moved hW.alike).kept hk, (z3.moved hW.alike).kept hk⟩, fun a ha h2 => ((h4 a ha h2).moved hW.alike).kept hk, (h5.moved hW.alike).kept hk, fun C hC => va_AO.moved hW.alike (h6 C hC)⟩
  have hn := (List.mem_filter.mp hw).2
  have h3 := h2 w hw
  cases w <;> first | exact va_Nw.warmF hW h3 | exact va_Nw.warmM hW h3 | (simp [znw_is] at hn)
theorem RK.blind {E : EN} {U : State} (h : RK E U) (a : Array Value) (g : JFrame) (mk : MethodId) : RK E (U.calling g mk a) := by
  obtain ⟨h1, h2, ⟨z1, z2, z3⟩, h4, h5, h6⟩ := h
  have hv : U.vm.Alike (U.calling g mk a).vm := Vm.Alike.refl U.vm
  refine ⟨va_K.moved hv h1, fun w hw => ?_, ⟨z1.moved hv, z2.moved hv, z3.moved hv⟩, fun a ha h2 => (h4 a ha h2).moved hv, h5.moved hv, fun C hC => va_AO.moved hv (h6 C hC)⟩
  have hn := (List.mem_filter.mp hw).2
  exact va_Nw.same (by cases w <;> first | rfl | (simp [znw_is] at hn)) (u := U) (U := U.calling g mk a) rfl (h2 w hw)
theorem LH.mask {E : EN} {ls : Array Slot} {L : List (Option Value)} (h : LH E ls L) (bs : List Bool) (hb : bs.length = L.length) : LH E ls (List.zipWith (fun (b : Bool) (v : Option Value) => if b then v else none) bs L) := by
  obtain ⟨h1, h2, h3⟩ := h
  refine ⟨by rw [List.length_zipWith, hb, Nat.min_self]; exact h1, h2, fun i v hv => h3 i v ?_⟩
  rw [List.getElem?_zipWith] at hv
  cases hbi : bs[i]? with
  | none => simp [hbi] at hv
  | some b =>
    cases hli : L[i]? with
    | none => simp [hbi, hli] at hv
    | some o =>
      simp only [hbi, hli] at hv
      cases b with
      | true => simpa using hv
      | false => simp at hv
/-- the locals as the kit lists them -/
def lpairs (E : EN) (L : List (Option Value)) : List (Nat × Value) := (List.range L.length).filterMap (fun i => (L[i]?.getD none).map (fun v => (i, vr E v)))
theorem lpairs_mem {E : EN} {L : List (Option Value)} {i : Nat} {v : Value} (h : L[i]? = some (some v)) : (i, vr E v) ∈ lpairs E L := by
  refine List.mem_filterMap.mpr ⟨i, List.mem_range.mpr (List.getElem?_eq_some_iff.mp h).1, ?_⟩
  simp [h]
theorem lpairs_of {E : EN} {L : List (Option Value)} {q : Nat × Value} (h : q ∈ lpairs E L) : ∃ v, L[q.1]? = some (some v) ∧ q.2 = vr E v := by
  obtain ⟨i, hi, hq⟩ := List.mem_filterMap.mp h
  cases hl : L[i]? with
  | none => simp [hl] at hq
  | some o =>
    cases o with
    | none => simp [hl] at hq
    | some v =>
      simp only [hl, Option.getD_some, Option.map_some, Option.some.injEq] at hq
      subst hq
      exact ⟨v, hl, rfl⟩
theorem LH.has {E : EN} {ls : Array Slot} {L : List (Option Value)} (h : LH E ls L) : lv_has ls L.length (lpairs E L) := by
  refine ⟨h.1, h.2.1, fun q hq => ?_⟩
  obtain ⟨v, h1, h2⟩ := lpairs_of hq
  rw [h2]
  exact h.2.2 q.1 v h1
/-- one slot stored: the place below must hold nothing of two slots -/
theorem LH.st1 {E : EN} {ls' : Array Slot} {L : List (Option Value)} {i : Nat} {v : Value} (h : lv_has ls' L.length ((i, vr E v) :: (lpairs E L).filter (fun q => !(q.1 == i) && !(q.1 + 1 == i && q.2.category == 2)))) (hc : i = 0 ∨ ∀ w, L[i - 1]? = some (some w) → w.category = 1) : LH E ls' (L.set i (some v)) := by
  refine ⟨by rw [List.length_set]; exact h.1, h.2.1, fun j w hw => ?_⟩
  by_cases hj : j = i
  · subst hj
    have hw' : some v = some w := by
      have hlt : j < (L.set j (some v)).length := (List.getElem?_eq_some_iff.mp hw).1
      rw [List.getElem?_set_self (by simpa using hlt)] at hw
      exact Option.some.inj hw
    cases hw'
    exact h.2.2 _ List.mem_cons_self
  · rw [List.getElem?_set_ne (Ne.symm hj)] at hw
    refine h.2.2 (j, vr E w) (List.mem_cons_of_mem _ (List.mem_filter.mpr ⟨lpairs_mem hw, ?_⟩))
    by_cases hk : j + 1 = i
    · have h1 : w.category = 1 := hc.elim (fun z => absurd z (by omega)) (fun hc => hc w (by rw [← hk, Nat.add_sub_cancel]; exact hw))
      simp [hj, vr_cat, h1]
    · simp [hj, hk]
/-- two slots stored -/
theorem LH.st2 {E : EN} {ls' : Array Slot} {L : List (Option Value)} {i : Nat} {v : Value} (h : lv_has ls' L.length ((i, vr E v) :: (lpairs E L).filter (fun q => !(q.1 == i) && (!(q.1 == i + 1) && !(q.1 + 1 == i && q.2.category == 2))))) (hc : i = 0 ∨ ∀ w, L[i - 1]? = some (some w) → w.category = 1) : LH E ls' ((L.set (i + 1) none).set i (some v)) := by
  refine ⟨by rw [List.length_set, List.length_set]; exact h.1, h.2.1, fun j w hw => ?_⟩
  by_cases hj : j = i
  · subst hj
    have hw' : some v = some w := by
      have hlt : j < ((L.set (j + 1) none).set j (some v)).length := (List.getElem?_eq_some_iff.mp hw).1
      rw [List.getElem?_set_self (by simpa using hlt)] at hw
      exact Option.some.inj hw
    cases hw'
    exact h.2.2 _ List.mem_cons_self
  · rw [List.getElem?_set_ne (Ne.symm hj)] at hw
    by_cases hj2 : j = i + 1
    · subst hj2
      have hlt := (List.getElem?_eq_some_iff.mp hw).1
      rw [List.getElem?_set_self (by simpa using hlt)] at hw
      cases hw
    · rw [List.getElem?_set_ne (Ne.symm hj2)] at hw
      refine h.2.2 (j, vr E w) (List.mem_cons_of_mem _ (List.mem_filter.mpr ⟨lpairs_mem hw, ?_⟩))
      by_cases hk : j + 1 = i
      · have h1 : w.category = 1 := hc.elim (fun z => absurd z (by omega)) (fun hc => hc w (by rw [← hk, Nat.add_sub_cancel]; exact hw))
        simp [hj, hj2, vr_cat, h1]
      · simp [hj, hj2, hk]
