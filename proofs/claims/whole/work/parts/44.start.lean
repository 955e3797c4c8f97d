/-! FROM THE LAW'S ENTRY to its function over the abstract heap -/
def tLT : Nat → Int32 := fun j => match j with
  | 2 => 1
  | _ => 0
def tGT : Nat → Int32 := fun j => match j with
  | 0 => 50
  | 1 => 9
  | _ => 3
def tWF : Nat → Int64 := fun j => match j with
  | 0 => -6148914691236517206
  | 1 => -3689348814741910324
  | 2 => -1085102592571150096
  | 3 => -71777214294589696
  | 4 => -281470681808896
  | _ => -4294967296
/-- the abstract heap at the start: three tables and the script -/
def h00 (L : Nat) (xs : Nat → Int32) : AH := (4, 0, fun a => match a with
  | 0 => (1, 4)
  | 1 => (1, 4)
  | 2 => (4, 6)
  | 3 => (1, L)
  | _ => (0, 0), fun a k => match a with
  | 0 => tLT k
  | 1 => tGT k
  | 3 => xs k
  | _ => 0, fun a k => match a with
  | 2 => tWF k
  | _ => 0, fun _ _ => none)
theorem ao_in : ∀ C ∈ zao, Cond.arrayOver (.object C) ∈ lw_tbl := by
  intro C hC
  have h : ∀ i w, tables_1[i]? = some w → w ∈ lw_tbl := fun i w h => List.mem_append_right _ (List.mem_of_getElem? h)
  simp only [zao, List.mem_cons, List.not_mem_nil, or_false] at hC
  rcases hC with rfl | rfl | rfl | rfl | rfl
  · exact h 217 _ (by decide +kernel)
  · exact h 215 _ (by decide +kernel)
  · exact h 34 _ (by decide +kernel)
  · exact h 109 _ (by decide +kernel)
  · exact h 288 _ (by decide +kernel)
theorem zgw_tbl : ∀ w ∈ zgw, w ∈ lw_tbl := fun w h => (List.mem_filter.mp h).1
theorem znw_tbl : ∀ w ∈ znw, w ∈ lw_tbl := fun w h => List.mem_append_right _ (List.mem_filter.mp h).1
theorem ls0 : Cond.laysStatic "HelperWeave" "LEAST_TRAIT" "[I" ∈ lw_tbl := List.mem_append_right _ (List.mem_of_getElem? (i := 723) (by decide +kernel))
theorem ls1 : Cond.laysStatic "HelperWeave" "GREATEST_TRAIT" "[I" ∈ lw_tbl := List.mem_append_right _ (List.mem_of_getElem? (i := 701) (by decide +kernel))
theorem ls2 : Cond.laysStatic "HelperWeave" "WITH_FACT" "[J" ∈ lw_tbl := List.mem_append_right _ (List.mem_of_getElem? (i := 913) (by decide +kernel))
theorem lsi : Cond.initialized "HelperWeave" ∈ lw_tbl := List.mem_append_right _ (List.mem_of_getElem? (i := 1) (by decide +kernel))
/-- an array class of each kind is there -/
theorem arr_there {s : State} {args : Array Value} (hts : ∀ w ∈ lw_tbl, w.before args s = true) : ∀ d : Nat, ∃ cA : ClassId, d ∈ kds → ArrOfT s cA (kty d) ∧ va_RA s cA (kty d) := by
  intro d
  by_cases hd : d ∈ kds
  · have prim : ∀ ty : FieldType, Cond.arrayClass ty ∈ zgw → (∀ cA, s.vm.findClass ("[" ++ ty.toString) = some cA → va_RA s cA ty) → ∃ cA : ClassId, ArrOfT s cA ty ∧ va_RA s cA ty := by
      intro ty hw hra
      obtain ⟨c, k, comp, f1, f2, f3⟩ := Cond.arrayClass_spec (hts _ (zgw_tbl _ hw))
      exact ⟨c, fun n z => ⟨(fun k h => by cases h), k, f2, comp, f3⟩, hra c f1⟩
    have refa : ∀ C : String, C ∈ zao → ∃ cA : ClassId, ArrOfT s cA (.object C) ∧ va_RA s cA (.object C) := by
      intro C hC
      obtain ⟨comp, c, k, f1, -, f3, f4, f5⟩ := Cond.arrayOver_spec (hts _ (ao_in C hC))
      exact ⟨c, fun n z => ⟨(fun k h => by cases h), k, f3, comp, f4⟩, k, comp, f3, f4, f1, f5⟩
    simp only [kds, List.mem_cons, List.not_mem_nil, or_false] at hd
    rcases hd with rfl | rfl | rfl | rfl | rfl | rfl | rfl | rfl | rfl
    · obtain ⟨cA, h⟩ := prim .int w_ac1 (fun _ h => h); exact ⟨cA, fun _ => h⟩
    · obtain ⟨cA, h⟩ := prim .boolean w_ac2 (fun _ h => h); exact ⟨cA, fun _ => h⟩
    · obtain ⟨cA, h⟩ := prim .byte w_ac3 (fun _ h => h); exact ⟨cA, fun _ => h⟩
    · obtain ⟨cA, h⟩ := prim .long w_ac4 (fun _ h => h); exact ⟨cA, fun _ => h⟩
    · obtain ⟨cA, h⟩ := refa "HelperWeave$Going" (by decide); exact ⟨cA, fun _ => h⟩
    · obtain ⟨cA, h⟩ := refa "HelperWeave$Helper" (by decide); exact ⟨cA, fun _ => h⟩
    · obtain ⟨cA, h⟩ := refa "HelperWeave$Level" (by decide); exact ⟨cA, fun _ => h⟩
    · obtain ⟨cA, h⟩ := refa "HelperWeave$Talk" (by decide); exact ⟨cA, fun _ => h⟩
    · obtain ⟨cA, h⟩ := refa "HelperWeave$Worlds" (by decide); exact ⟨cA, fun _ => h⟩
  · exact ⟨0, fun h => absurd h hd⟩
theorem cls_there {s : State} {args : Array Value} (hts : ∀ w ∈ lw_tbl, w.before args s = true) : ∀ ci : Nat, ∃ y : ClassId × (Nat → Nat), ∀ r : vw_C, zcl[ci]? = some r → u_Kn s r.1 r.2.1 r.2.2 y.1 y.2 := by
  intro ci
  have hz : ∀ w ∈ zgw, w.before args s = true := fun w h => hts w (zgw_tbl w h)
  cases h : zcl[ci]? with
  | none => exact ⟨(0, fun _ => 0), fun r hr => by cases hr⟩
  | some r =>
    obtain ⟨i1, i2, i3, i4, i5, i6, i7⟩ := zall ci r h
    obtain ⟨cC, iS, hk⟩ := u_known hz i1 (hz _ i6)
    exact ⟨(cC, iS), fun r' hr => by cases hr; exact hk⟩
set_option maxHeartbeats 4000000 in
set_option maxRecDepth 100000 in
/-- the static tables as the start has them -/
theorem tab_there {s : State} {args : Array Value} {A : Nat → Prop} (hts : ∀ w ∈ lw_tbl, w.before args s = true) (hgv : (Jvm.Cond.and given_1 narrow_1).before args s = true) (hA : ∀ a : Nat, a < s.heap.size → ¬ A a) :
    ∃ t0 t1 t2 : Nat, (va_Z "HelperWeave" "LEAST_TRAIT" "[I" (.ref t0) A s s.heap ∧ va_Z "HelperWeave" "GREATEST_TRAIT" "[I" (.ref t1) A s s.heap ∧ va_Z "HelperWeave" "WITH_FACT" "[J" (.ref t2) A s s.heap) ∧ va_T .int t0 4 (fun j => .int (tLT j)) A s s.heap ∧ va_T .int t1 4 (fun j => .int (tGT j)) A s s.heap ∧ va_T .long t2 6 (fun j => .long (tWF j)) A s s.heap := by
  have hs := flat_of_before _ hgv
  obtain ⟨t0, e0, T0⟩ := va_Tof (tm := .static "HelperWeave" "LEAST_TRAIT" "[I") (ty := .int) (N := 4) (f := fun j => .int (tLT j)) (A := A) (by decide) (hs _ (by decide +kernel)) (va_eqt (hs (Cond.eq (.length (.static "HelperWeave" "LEAST_TRAIT" "[I")) (.int 4)) (by decide +kernel))) (fun j hj => by
    match j, hj with
    | 0, _ => exact va_eqt (hs (Cond.eq (.elem (.static "HelperWeave" "LEAST_TRAIT" "[I") (.int 0)) (.int 0)) (by decide +kernel))
    | 1, _ => exact va_eqt (hs (Cond.eq (.elem (.static "HelperWeave" "LEAST_TRAIT" "[I") (.int 1)) (.int 0)) (by decide +kernel))
    | 2, _ => exact va_eqt (hs (Cond.eq (.elem (.static "HelperWeave" "LEAST_TRAIT" "[I") (.int 2)) (.int 1)) (by decide +kernel))
    | 3, _ => exact va_eqt (hs (Cond.eq (.elem (.static "HelperWeave" "LEAST_TRAIT" "[I") (.int 3)) (.int 0)) (by decide +kernel))) hA
  obtain ⟨t1, e1, T1⟩ := va_Tof (tm := .static "HelperWeave" "GREATEST_TRAIT" "[I") (ty := .int) (N := 4) (f := fun j => .int (tGT j)) (A := A) (by decide) (hs _ (by decide +kernel)) (va_eqt (hs (Cond.eq (.length (.static "HelperWeave" "GREATEST_TRAIT" "[I")) (.int 4)) (by decide +kernel))) (fun j hj => by
    match j, hj with
    | 0, _ => exact va_eqt (hs (Cond.eq (.elem (.static "HelperWeave" "GREATEST_TRAIT" "[I") (.int 0)) (.int 50)) (by decide +kernel))
    | 1, _ => exact va_eqt (hs (Cond.eq (.elem (.static "HelperWeave" "GREATEST_TRAIT" "[I") (.int 1)) (.int 9)) (by decide +kernel))
    | 2, _ => exact va_eqt (hs (Cond.eq (.elem (.static "HelperWeave" "GREATEST_TRAIT" "[I") (.int 2)) (.int 3)) (by decide +kernel))
    | 3, _ => exact va_eqt (hs (Cond.eq (.elem (.static "HelperWeave" "GREATEST_TRAIT" "[I") (.int 3)) (.int 3)) (by decide +kernel))) hA
  obtain ⟨t2, e2, T2⟩ := va_Tof (tm := .static "HelperWeave" "WITH_FACT" "[J") (ty := .long) (N := 6) (f := fun j => .long (tWF j)) (A := A) (by decide) (hs _ (by decide +kernel)) (va_eqt (hs (Cond.eq (.length (.static "HelperWeave" "WITH_FACT" "[J")) (.int 6)) (by decide +kernel))) (fun j hj => by
    match j, hj with
    | 0, _ => exact va_eqtl (hs (Cond.eq (.elem (.static "HelperWeave" "WITH_FACT" "[J") (.int 0)) (.long (-6148914691236517206))) (by decide +kernel))
    | 1, _ => exact va_eqtl (hs (Cond.eq (.elem (.static "HelperWeave" "WITH_FACT" "[J") (.int 1)) (.long (-3689348814741910324))) (by decide +kernel))
    | 2, _ => exact va_eqtl (hs (Cond.eq (.elem (.static "HelperWeave" "WITH_FACT" "[J") (.int 2)) (.long (-1085102592571150096))) (by decide +kernel))
    | 3, _ => exact va_eqtl (hs (Cond.eq (.elem (.static "HelperWeave" "WITH_FACT" "[J") (.int 3)) (.long (-71777214294589696))) (by decide +kernel))
    | 4, _ => exact va_eqtl (hs (Cond.eq (.elem (.static "HelperWeave" "WITH_FACT" "[J") (.int 4)) (.long (-281470681808896))) (by decide +kernel))
    | 5, _ => exact va_eqtl (hs (Cond.eq (.elem (.static "HelperWeave" "WITH_FACT" "[J") (.int 5)) (.long (-4294967296))) (by decide +kernel))) hA
  exact ⟨t0, t1, t2, ⟨va_Zref (hts _ ls0) (hts _ lsi) e0 hA, va_Zref (hts _ ls1) (hts _ lsi) e1 hA, va_Zref (hts _ ls2) (hts _ lsi) e2 hA⟩, T0, T1, T2⟩
set_option maxHeartbeats 4000000 in
/-- THE LAW out of its function: if that answers 1 on every script, within the room, the law does -/
theorem law_start (hyp : ∀ (L : Nat) (xs : Nat → Int32), L ≤ 2560 → ∃ hF, f_L_law (h00 L xs) (some 3) = some (1, hF) ∧ hM hF ≤ 600004 ∧ hZ hF ≤ 7302250)
    {p : Program} {e : Env} {s : State} {m : MethodId} {below : List Frame} {meth : Method} {c : Code} (l : Launch) {b L : Nat} {xs : Nat → Int32} (hL : L ≤ 2560) (C0 : lw_At p s m meth c b L xs) : W p l e room_1 s m #[Value.ref b] below meth c s.heap [] 0 0 (lw_Z below #[Value.ref b] s) (entryFrame m ([Value.ref b] : List Value).toArray 4) := by
  obtain ⟨hx, hb, hr, hml, hown, hts, hX, hbl, hlocks, hgv⟩ := C0
  obtain ⟨hF, hf, hF1, hF2⟩ := hyp L xs hL
  obtain ⟨fD, hfD⟩ := Classical.skolem.mp (cls_there hts)
  obtain ⟨fA, hfA⟩ := Classical.skolem.mp (arr_there hts)
  obtain ⟨t0, t1, t2, Z, T0, T1, T2⟩ := tab_there (A := fun q => s.heap.size ≤ q) hts hgv (fun a h => Nat.not_le.mpr h)
  obtain ⟨E, hE⟩ : ∃ E : EN, E = ((fun k => (fD k).1, fun k => (fD k).2), fA, s.heap.size, fun a => match a with | 0 => t0 | 1 => t1 | 2 => t2 | _ => b, h00 L xs) := ⟨_, rfl⟩
  have hfr : fr E = fun q => s.heap.size ≤ q := by rw [hE]; rfl
  have TX : va_T .int b L (fun j => .int (xs j)) (fun q => s.heap.size ≤ q) s s.heap := by
    obtain ⟨scr, g1, g2, g3, g4, g5⟩ := hX
    exact ⟨scr, g1, g2, g3, by omega, by rw [g4], g5, Nat.not_le.mpr hbl⟩
  have hRK : RK E s := by
    refine ⟨⟨fun k q hq => ?_, fun k q hq => ?_⟩, fun w hw => ?_, ?_, fun a ha h2 => ?_, ?_, fun C hC => va_AO.of (hts _ (ao_in C hC))⟩
    · rw [hE]; exact hfD k q hq
    · obtain ⟨d, hd, rfl⟩ := List.mem_map.mp (List.mem_of_getElem? hq)
      rw [hE]; exact hfA d hd
    · have hn := (List.mem_filter.mp hw).2
      exact va_Nw.of (by cases w <;> first | rfl | (simp [znw_is] at hn)) (hts w (znw_tbl w hw))
    · rw [hfr]; rw [hE]; exact Z
    · rw [hfr]
      rw [hE]
      rcases (show a = 0 ∨ a = 1 ∨ a = 3 by omega) with rfl | rfl | rfl
      · exact T0
      · exact T1
      · exact TX
    · rw [hfr]; rw [hE]; exact T2
  have hRH : RH E (h00 L xs) s.heap := by
    refine ⟨Nat.le_refl 4, ?_, fun a h1 h2 => absurd h2 (Nat.not_lt.mpr h1), fun a ha => ?_, fun a _ => ?_, fun a ha => ?_⟩
    · rw [hE]; rfl
    · have ha : 4 ≤ a := ha
      match a, ha with
      | a + 4, _ => rfl
    · rw [hE]; exact ⟨rfl, rfl, rfl⟩
    · match a, ha with
      | 0, _ => rfl
      | 1, _ => rfl
      | 2, _ => rfl
      | 3, _ => rfl
  have F : FX E mi_L_law p s m #[Value.ref b] meth c := ⟨hx, hb, hml, hr, hlocks, hown, fun q => absurd q (by decide), fun w hw => hts w (zgw_tbl w hw), hRK, by rw [hE]; exact Nat.le_refl _⟩
  have hB : ∃ B : (Nat × Nat) × (Nat × Nat), B = ((4, 0), (600004, 7302250)) := ⟨_, rfl⟩
  obtain ⟨B, hB⟩ := hB
  have Hr : ((1 : Int32) = 0 ∨ (1 : Int32) = 1) → ∀ (pc : Nat) (L' : List (Option Value)), decode mi_L_law.2.1 pc = .ok (.ireturn, 1) → AW l E mi_L_law room_1 B (fun below' args' s' t => s' = s → args' = #[Value.ref b] → lw_Z below' args' s' t) pc L' [.int 1] hF := by
    intro _ pc L' hd
    subst hB
    refine ⟨⟨hF1, hF2, Nat.le_refl _, Nat.le_of_eq (Nat.zero_add _).symm⟩, fun b1 b2 hL' p' e' s' m' args' below' meth' c' H locs ls F' hRH' hS hl => ?_⟩
    by_cases hss : s' = s ∧ args' = #[Value.ref b]
    · obtain ⟨rfl, rfl⟩ := hss
      refine va_forget (fun q hq => ?_) ?_
      · have := hS.2.2 q hq
        rw [hfr] at this
        exact this
      · have k2 := lw_ret (l := l) (e := e') (s := s') (m := m') (below := below') (H := H) (ls := ls) (pc := pc) (b := b) F'.1 F'.2.1 F'.2.2.2.1 F'.2.2.2.2.1 hd
        refine W.widen (k := 600000) (n := 7302250) (by show hM hF - 4 ≤ _; omega) (by show hZ hF - 0 ≤ _; omega) ?_
        intro T hT X
        obtain ⟨t, a, b2⟩ := k2 T hT X
        exact ⟨t, a, fun _ _ => b2⟩
    · intro T hT X
      exact ⟨_, Steps.refl _, fun q1 q2 => absurd ⟨q1, q2⟩ hss⟩
  have kx := v_L_law (l := l) (E := E) (R := room_1) (B := B) (Nat.le_of_ble_eq_true rfl) (Nat.le_of_ble_eq_true rfl) Hr hf
  subst hB
  have hen : LH E ((lg_sl (([va_rf (some 3)] : List Value).map (vr E)) ++ List.replicate (4 - (lg_sl (([va_rf (some 3)] : List Value).map (vr E))).length) Slot.unset).toArray) [some (va_rf (some 3)), none, none, none] :=
    entry_L (av := [va_rf (some 3)]) (nL := 4) _ rfl (Nat.le_of_ble_eq_true rfl) (fun i v hv => by have := mkL_at 3 [(va_rf (some 3), false)] ⟨rfl, trivial⟩ 0 i v hv; rwa [Nat.zero_add] at this)
  have kk := kx.2 (Nat.le_refl _) (Nat.le_refl _) rfl p e s m #[Value.ref b] below meth c s.heap [] _ F hRH va_S.rf hen
  have e3 : ([va_rf (some 3)] : List Value).map (vr E) = [Value.ref b] := by rw [hE]; rfl
  rw [e3] at kk
  rw [lg_entry_eq]
  intro T hT X
  obtain ⟨t, a, b2⟩ := kk T hT X
  exact ⟨t, a, b2 rfl rfl⟩
