/-! THE RULES of new arrays, static tables, natives, calls, returns, a method's start -/
def sname : Nat → String := fun j => match j with
  | 0 => "LEAST_TRAIT"
  | 1 => "GREATEST_TRAIT"
  | _ => "WITH_FACT"
def sdesc : Nat → String := fun j => match j with
  | 0 => "[I"
  | 1 => "[I"
  | _ => "[J"
theorem comp_le (t : FieldType) : componentBytes t ≤ 8 := by cases t <;> exact Nat.le_of_ble_eq_true rfl
theorem bytes_ok {N : Nat} (t : FieldType) (h : N ≤ 1000000) : N * componentBytes t ≤ 536870912 := by
  have h1 := comp_le t
  have h2 : N * componentBytes t ≤ N * 8 := Nat.mul_le_mul_left N h1
  omega
section HC
variable {l : Launch} {E : EN} {mi : MI} {R : Room} {B : (Nat × Nat) × (Nat × Nat)} {Qf : QF} {pc : Nat} {L : List (Option Value)} {st : List Value} {h h' : AH}
theorem nAr_of {d : Nat} {n : Int32} (hg : nAr d h n = some h') : ¬ n < 0 ∧ n.toNatClampNeg ≤ 1000000 ∧ h' = uN' h (d, n.toNatClampNeg) n.toNatClampNeg := by
  unfold nAr at hg; split at hg
  · rename_i q
    exact ⟨q.1, q.2, (Option.some.inj hg).symm⟩
  · cases hg
theorem cel_new {d N : Nat} (hd : d < 100) : cel E (uN' h (d, N) N) (hM h) = .inl (eA E d, N, arr E (uN' h (d, N) N) (hM h) d) := by
  have ek : hK (uN' h (d, N) N) (hM h) = (d, N) := by show (if h.1 = h.1 then (d, N) else _) = _; rw [if_pos rfl]
  unfold cel
  rw [ek]
  simp only
  rw [if_pos hd]
theorem ax_newa {d : Nat} {atype : ArrayType} {n : Int32} (hd4 : d = 1 ∨ d = 2 ∨ d = 3 ∨ d = 4) (hat : newarray.typeOf atype = kty d) (hw : Cond.arrayClass (kty d) ∈ zgw) (hd : decode mi.2.1 pc = .ok (.newarray atype, 2)) (hg : nAr d h n = some h') (kx : AW l E mi R B Qf (pc + 2) L (va_rf (some (hM h)) :: st) h') : AW l E mi R B Qf pc L (.int n :: st) h := by
  obtain ⟨hn, hN, rfl⟩ := nAr_of hg
  generalize eN : n.toNatClampNeg = N at hN kx
  have hm : hM (uN' h (d, N) N) = hM h + 1 := rfl
  have hz : hZ (uN' h (d, N) N) = hZ h + N := rfl
  obtain ⟨⟨c1, c2, c3, c4⟩, kx⟩ := kx
  refine ⟨⟨by omega, by omega, c3, c4⟩, fun b1 b2 hL p e s m args below meth c H locs ls F hRH hS hl => ?_⟩
  have hts := F.2.2.2.2.2.2.2.1
  have hKK := F.2.2.2.2.2.2.2.2.1.1
  refine va_newaK F.1 F.2.1 (by rw [hat]; exact hts _ hw) rfl hd rfl hn eN (bytes_ok _ hN) (by omega) (by omega) rfl fun H1 cA e1 z1 o1 hAr hNm => ?_
  have hmem : d ∈ kds := by rcases hd4 with rfl | rfl | rfl | rfl <;> decide
  obtain ⟨t0, ht⟩ := tys_at E hmem
  have hra := (hKK.2 t0 _ ht).2
  rw [hat] at hNm e1
  have hcA : cA = eA E d := by
    have h9 : s.vm.findClass ("[" ++ (kty d).toString) = some (eA E d) := by
      rcases hd4 with rfl | rfl | rfl | rfl <;> exact hra
    exact Option.some.inj (hNm.symm.trans h9)
  subst hcA
  have hR1 : RH E (uN' h (d, N) N) H1 := by
    refine hRH.grow z1 o1 ?_
    rw [cel_new (by rcases hd4 with rfl | rfl | rfl | rfl <;> omega), ← hRH.next]
    show H1[H.size]? = some (vp_cell _ _)
    rw [e1]
    have eI : hI (uN' h (d, N) N) (hM h) = fun _ => 0 := by funext j; show (if h.1 = h.1 then (0 : Int32) else _) = _; rw [if_pos rfl]
    have eJ : hJ (uN' h (d, N) N) (hM h) = fun _ => 0 := by funext j; show (if h.1 = h.1 then (0 : Int64) else _) = _; rw [if_pos rfl]
    unfold arr
    rw [eI, eJ]
    rcases hd4 with rfl | rfl | rfl | rfl <;> rfl
  have kk := kx (by omega) (by omega) hL p e s m args below meth c H1 locs ls F hR1 (hS.grow z1 o1) hl
  rw [show hM (uN' h (d, N) N) - B.1.1 = hM h - B.1.1 + 1 by omega, show hZ (uN' h (d, N) N) - B.1.2 = hZ h - B.1.2 + N by omega] at kk
  rw [show H.size = ad E (hM h) from hRH.next]
  exact kk
theorem ax_anew {idx c : Nat} {C : String} {n : Int32} (hc : 10 + c ∈ kds) (hc2 : Nat.blt c 50 = true) (hC : kty (10 + c) = .object C) (hao : C ∈ zao) (hw : Cond.classLink mi.1.cls idx C ∈ zgw) (hd : decode mi.2.1 pc = .ok (.anewarray idx, 3)) (hg : nAr (10 + c) h n = some h') (kx : AW l E mi R B Qf (pc + 3) L (va_rf (some (hM h)) :: st) h') : AW l E mi R B Qf pc L (.int n :: st) h := by
  obtain ⟨hn, hN, rfl⟩ := nAr_of hg
  have hc3 := Nat.le_of_ble_eq_true hc2
  have hm : hM (uN' h (10 + c, n.toNatClampNeg) n.toNatClampNeg) = hM h + 1 := rfl
  have hz : hZ (uN' h (10 + c, n.toNatClampNeg) n.toNatClampNeg) = hZ h + n.toNatClampNeg := rfl
  obtain ⟨⟨c1, c2, c3, c4⟩, kx⟩ := kx
  refine ⟨⟨by omega, by omega, c3, c4⟩, fun b1 b2 hL p e s m args below meth cc H locs ls F hRH hS hl => ?_⟩
  have hts := F.2.2.2.2.2.2.2.1
  have hKK := F.2.2.2.2.2.2.2.2.1.1
  refine W.anew F.1 F.2.1 F.2.2.2.2.2.1 (hts _ hw) (va_AO.use (F.2.2.2.2.2.2.2.2.1.2.2.2.2.2 C hao)) rfl hd rfl hn (by omega) (by omega) (by omega) fun cA kA comp f1 f2 f3 f4 => ?_
  generalize hH1 : H.push ({ cls := cA, slots := Array.replicate n.toNatClampNeg .null, vm := .none } : Cell) = H1
  have z1 : H1.size = H.size + 1 := by rw [← hH1, Array.size_push]
  have e1 : H1[H.size]? = some (arrV cA n.toNatClampNeg (fun _ => .null)) := by rw [← hH1, Array.getElem?_push_size, ← arrV_new]
  have o1 : ∀ q : Nat, q < H.size → H1[q]? = H[q]? := fun q hq => by rw [← hH1, Array.getElem?_push, if_neg (Nat.ne_of_lt hq)]
  obtain ⟨t0, ht⟩ := tys_at E hc
  rw [hC] at ht
  obtain ⟨kA2, comp2, -, -, -, f5⟩ := (hKK.2 t0 _ ht).2
  have hcA : cA = eA E (10 + c) := Option.some.inj (f1.symm.trans f5)
  subst hcA
  have hR1 : RH E (uN' h (10 + c, n.toNatClampNeg) n.toNatClampNeg) H1 := by
    refine hRH.grow z1 o1 ?_
    rw [cel_new (by omega), arr_ref (by omega), ← hRH.next]
    show H1[H.size]? = some (vp_cell _ _)
    rw [e1, vp_cell_q]
    have eR : hR (uN' h (10 + c, n.toNatClampNeg) n.toNatClampNeg) (hM h) = fun _ => none := by funext j; show (if h.1 = h.1 then (none : Option Nat) else _) = _; rw [if_pos rfl]
    rw [eR]
    rfl
  have kk := kx (by omega) (by omega) hL p e s m args below meth cc H1 locs ls F hR1 (hS.grow z1 o1) hl
  rw [show hM (uN' h (10 + c, n.toNatClampNeg) n.toNatClampNeg) - B.1.1 = hM h - B.1.1 + 1 by omega, show hZ (uN' h (10 + c, n.toNatClampNeg) n.toNatClampNeg) - B.1.2 = hZ h - B.1.2 + n.toNatClampNeg by omega] at kk
  rw [show H.size = ad E (hM h) from hRH.next]
  exact kk
theorem ax_gets {idx j : Nat} (hj : Nat.blt j 3 = true) (hw : Cond.fieldLink mi.1.cls idx "HelperWeave" (sname j) (sdesc j) ∈ zgw ∨ ∃ host, Cond.fieldLinkNest mi.1.cls idx "HelperWeave" (sname j) (sdesc j) host ∈ znw) (hd : decode mi.2.1 pc = .ok (.getstatic idx, 3)) (kx : AW l E mi R B Qf (pc + 3) L (va_rf (some j) :: st) h) : AW l E mi R B Qf pc L st h := by
  have hj := Nat.le_of_ble_eq_true hj
  refine ⟨kx.1, fun b1 b2 hL p e s m args below meth c H locs ls F hRH hS hl => ?_⟩
  have kk := kx.2 b1 b2 hL p e s m args below meth c H locs ls F hRH hS hl
  obtain ⟨z1, z2, z3⟩ := F.2.2.2.2.2.2.2.2.1.2.2.1
  have hZ : va_Z "HelperWeave" (sname j) (sdesc j) (.ref (ad E j)) (fr E) s s.heap := by
    rw [ad_lo (by omega)]
    rcases (show j = 0 ∨ j = 1 ∨ j = 2 by omega) with rfl | rfl | rfl
    · exact z1
    · exact z2
    · exact z3
  rcases hw with hw | ⟨host, hw⟩
  · exact va_gets F.1 F.2.1 hZ hS F.2.2.2.2.2.1 (F.2.2.2.2.2.2.2.1 _ hw) (fun x hx => hx) hd kk
  · exact va_getsN F.1 F.2.1 hZ hS F.2.2.2.2.2.1 (va_Nw.use rfl (F.2.2.2.2.2.2.2.2.1.2.1 _ hw)) (fun x hx => hx) hd kk
theorem ax_objInit {idx a : Nat} (hw : Cond.methodLink mi.1.cls idx Lib.objectInit ∈ zgw) (hi : Cond.instanceMethod Lib.objectInit ∈ zgw) (hc : Cond.code Lib.objectInit ⟨#[0xb1]⟩ 1 none ∈ zgw) (hR1 : 1 ≤ R.frames) (hR2 : 64 ≤ R.locals) (hs : (st.map fun v => v.category).sum ≤ 8) (hd : decode mi.2.1 pc = .ok (.invokespecial idx, 3)) (kx : AW l E mi R B Qf (pc + 3) L st h) : AW l E mi R B Qf pc L (va_rf (some a) :: st) h := by
  refine ⟨kx.1, fun b1 b2 hL p e s m args below meth c H locs ls F hRH hS hl => ?_⟩
  have hts := F.2.2.2.2.2.2.2.1
  refine W.objInit F.1 F.2.1 F.2.2.2.2.2.1 (hts _ hw) (hts _ hi) (hts _ hc) rfl (by show ls.size = _; rw [hl.1, hL, F.2.2.1]) rfl hd hR1 ?_ (kx.2 b1 b2 hL p e s m args below meth c H locs ls F hRH hS hl)
  show 2 * 0 + _ + 12 ≤ _
  rw [vr_sum]
  omega
theorem ax_mmax {idx : Nat} {x y : Int32} (hw : Cond.methodLink mi.1.cls idx Lib.Math.max.name ∈ zgw) (hst : Cond.static Lib.Math.max.name ∈ zgw) (hi : Cond.initialized "java/lang/Math" ∈ zgw) (hc : Cond.code Lib.Math.max.name Lib.Math.max.code 2 (some .int) ∈ zgw) (hR1 : 1 ≤ R.frames) (hR2 : 64 ≤ R.locals) (hs : (st.map fun v => v.category).sum ≤ 8) (hd : decode mi.2.1 pc = .ok (.invokestatic idx, 3)) (kx : AW l E mi R B Qf (pc + 3) L (.int (if x < y then y else x) :: st) h) : AW l E mi R B Qf pc L (.int y :: .int x :: st) h := by
  refine ⟨kx.1, fun b1 b2 hL p e s m args below meth c H locs ls F hRH hS hl => ?_⟩
  obtain ⟨c1, c2, c3, c4⟩ := kx.1
  have hts := F.2.2.2.2.2.2.2.1
  refine va_mmax F.1 F.2.1 (by rw [hl.1, hL, F.2.2.1]) F.2.2.2.2.2.1 (hts _ hw) (hts _ hst) (hts _ hi) (hts _ hc) hR1 ?_ (by omega) (by omega) hd (kx.2 b1 b2 hL p e s m args below meth c H locs ls F hRH hS hl)
  rw [vr_sum]
  omega
theorem ax_mmin {idx : Nat} {x y : Int32} (hw : Cond.methodLink mi.1.cls idx Lib.Math.min.name ∈ zgw) (hst : Cond.static Lib.Math.min.name ∈ zgw) (hi : Cond.initialized "java/lang/Math" ∈ zgw) (hc : Cond.code Lib.Math.min.name Lib.Math.min.code 2 (some .int) ∈ zgw) (hR1 : 1 ≤ R.frames) (hR2 : 64 ≤ R.locals) (hs : (st.map fun v => v.category).sum ≤ 8) (hd : decode mi.2.1 pc = .ok (.invokestatic idx, 3)) (kx : AW l E mi R B Qf (pc + 3) L (.int (if y < x then y else x) :: st) h) : AW l E mi R B Qf pc L (.int y :: .int x :: st) h := by
  refine ⟨kx.1, fun b1 b2 hL p e s m args below meth c H locs ls F hRH hS hl => ?_⟩
  obtain ⟨c1, c2, c3, c4⟩ := kx.1
  have hts := F.2.2.2.2.2.2.2.1
  refine va_mmin F.1 F.2.1 (by rw [hl.1, hL, F.2.2.1]) F.2.2.2.2.2.1 (hts _ hw) (hts _ hst) (hts _ hi) (hts _ hc) hR1 ?_ (by omega) (by omega) hd (kx.2 b1 b2 hL p e s m args below meth c H locs ls F hRH hS hl)
  rw [vr_sum]
  omega
/-! calls -/
theorem wx_call {p : Program} {e : Env} {s : State} {m : MethodId} {args av : Array Value} {below : List Frame} {meth : Method} {c : Code} {H : Heap} {locs : List Loc} {cells slots mc ms : Nat} {Q : State → Prop} {ls : Array Slot} {st0 rest : List Value} {rf : Option Value} {hf : AH}
    (hr : va_Run p l e R s m args below meth c H locs cells slots mc ms (F0 m pc ls st0) rest (Qc E rf hf av) (fr E)) (hS : va_S (fr E) s.heap H locs)
    (kk : ∀ (H1 : Heap) (locs1 : List Loc), RH E hf H1 → va_S (fr E) s.heap H1 locs1 → W p l e R s m args below meth c H1 locs1 (cells + mc) (slots + ms) Q (F0 m (pc + 3) ls ((rf.map (vr E)).toList ++ rest))) : W p l e R s m args below meth c H locs cells slots Q (F0 m pc ls st0) := by
  intro T hT X
  obtain ⟨v, st₀, t, T', L, h0, X', hL, e1, e2, ⟨hv, hb, hz, hk⟩, st⟩ := hr T hT X
  have hv : v = rf.map (vr E) := by cases hv; rfl
  subst hv
  rw [h0] at hz hk
  obtain ⟨t2, a1, b1⟩ := kk T'.heap (locs ++ L) (by rw [e1]; exact hb)
    ⟨Nat.le_trans hS.1 (by rw [e1]; exact hz), fun q h1 h2 => by rw [e1, hk q (Nat.lt_of_lt_of_le h1 hS.1) h2]; exact hS.2.1 q h1 h2, fun q hq => by
      rcases List.mem_append.mp hq with h | h
      · exact hS.2.2 q h
      · exact hL q h⟩ T' rfl X'
  exact ⟨t2, st t2 a1, b1⟩
/-- what the words must say of a method that is called: n its parameters -/
def CMd (mi2 : MI) (n : Nat) : Prop := Cond.initialized mi2.1.cls ∈ zgw ∧ Cond.code mi2.1 mi2.2.1 mi2.2.2.1 mi2.2.2.2 ∈ zgw ∧ mi2.1.cls ≠ "java/lang/invoke/MethodHandle" ∧ mi2.1.cls ≠ "java/lang/invoke/VarHandle" ∧ (parseMethodDescriptor mi2.1.desc).map (fun d => d.parameters.length) = some n
def CMv (mi2 : MI) (n : Nat) : Prop := CMd mi2 n ∧ Cond.instanceMethod mi2.1 ∈ zgw ∧ Cond.selects mi2.1.cls mi2.1 mi2.1 ∈ zgw
def CMs (mi2 : MI) (n : Nat) : Prop := CMd mi2 n ∧ Cond.static mi2.1 ∈ zgw
def CMi (mi2 : MI) (n : Nat) : Prop := CMd mi2 n ∧ mi2.1.name = "<init>" ∧ Cond.instanceMethod mi2.1 ∈ zgw
def ML (own : String) (idx : Nat) (y : MethodName) : Prop := Cond.methodLink own idx y ∈ zgw ∨ ∃ host, Cond.methodLinkNest own idx y host ∈ znw
theorem zgood_c {y : MethodName} {b : ByteArray} {n : Nat} {r : Option FieldType} (h : Cond.code y b n r ∈ zgw) : GoodIn zgw (Cond.code y b n r :: zgw) := by
  intro w hw
  rcases List.mem_cons.mp hw with rfl | hw
  · exact zgood _ h
  · exact zgood w hw
theorem blindP {av : List Value} : FrameBlind (Pc E av h) := fun a U g mk q => ⟨q.1, q.2.1.blind a g mk, q.2.2⟩
theorem callOK {mi2 : MI} {d n mc ms : Nat} {hf : AH} {s : State} {args : Array Value} (hts : ∀ w ∈ zgw, w.before args s = true) (cm : CMd mi2 n) (hfr : d + 1 ≤ R.frames) (hlo : 8 + (mi2.2.2.1 + 11) + 64 * d ≤ R.locals) (e1 : mc = hM hf - hM h) (e2 : ms = hZ hf - hZ h) :
    ((rmOf d (bOf h hf)).cells = mc ∧ (rmOf d (bOf h hf)).slots = ms ∧ (rmOf d (bOf h hf)).frames + 1 ≤ R.frames ∧ 8 + (mi2.2.2.1 + 11) + (rmOf d (bOf h hf)).locals ≤ R.locals ∧ (∀ w ∈ (Cond.code mi2.1 mi2.2.1 mi2.2.2.1 mi2.2.2.2 :: zgw), ∀ (a' : Array Value) (U : State), s.WarmedH U.vm → w.before a' U = true) ∧ Cond.code mi2.1 mi2.2.1 mi2.2.2.1 mi2.2.2.2 ∈ (Cond.code mi2.1 mi2.2.1 mi2.2.2.1 mi2.2.2.2 :: zgw)) ∧
    (Cond.code mi2.1 mi2.2.1 mi2.2.2.1 mi2.2.2.2).before args s = true ∧ (Cond.initialized mi2.1.cls).before args s = true ∧ (mi2.1.cls ≠ "java/lang/invoke/MethodHandle" ∧ mi2.1.cls ≠ "java/lang/invoke/VarHandle") ∧ (∀ sig, parseMethodDescriptor mi2.1.desc = some sig → n = sig.parameters.length) := by
  obtain ⟨g1, g2, g3, g4, g5⟩ := cm
  refine ⟨⟨e1.symm, e2.symm, hfr, hlo, pay_in hts (zgood_c g2), List.mem_cons_self⟩, hts _ g2, hts _ g1, ⟨g3, g4⟩, fun sig hs => ?_⟩
  rw [hs] at g5
  exact (Option.some.inj g5).symm
theorem ax_callV {mi2 : MI} {idx d n ci b : Nat} {As rest stk : List Value} {rf : Option Value} {hf : AH} {T : u_T} {N : Nat} (hA : AM l E d mi2 (va_rf (some b) :: As) h rf hf) (ml : ML mi.1.cls idx mi2.1) (cm : CMv mi2 n) (hcl : zcl[ci]? = some (mi2.1.cls, T, N)) (hk : hK h b = (100 + ci, 0)) (hfr : d + 1 ≤ R.frames) (hlo : 8 + (mi2.2.2.1 + 11) + 64 * d ≤ R.locals) (hn : As.length = n) (hs : stk = As.reverse ++ va_rf (some b) :: rest) (hr8 : (rest.map fun v => v.category).sum ≤ 8) (hd : decode mi.2.1 pc = .ok (.invokevirtual idx, 3)) (kx : AW l E mi R B Qf (pc + 3) L (rf.toList ++ rest) hf) : AW l E mi R B Qf pc L stk h := by
  subst hs
  obtain ⟨⟨m1, m2⟩, hM0⟩ := hA
  obtain ⟨⟨c1, c2, c3, c4⟩, kx⟩ := kx
  refine ⟨⟨by omega, by omega, c3, c4⟩, fun b1 b2 hL p e s m args below meth c H locs ls F hRH hS hl => ?_⟩
  have hts := F.2.2.2.2.2.2.2.1
  have ok := callOK (h := h) (hf := hf) (R := R) hts cm.1 hfr hlo rfl rfl
  have fix : CallFix p m c mi.2.1 mi.2.2.1 s args zgw mi.1.cls := ⟨F.1, F.2.1, F.2.2.1, F.2.2.2.2.2.1, hts⟩
  have hrecv : ∃ cellB : Cell, H[ad E b]? = some cellB ∧ cellB.vm.isStatics = false ∧ s.vm.findClass mi2.1.cls = some cellB.cls := va_recv F.2.2.2.2.2.2.2.2.1.1 (vat_one (hRH.obj hk)) hcl (q0 := 0) rfl
  have hp : PreV s H mi2.1.cls (ad E b) (Pc E (va_rf (some b) :: As) h) (As.map (vr E)) := ⟨blindP, hrecv, fun U hU hW => ⟨rfl, RK.moved F.2.2.2.2.2.2.2.2.1 hS hU hW, by rw [hU]; exact hRH⟩⟩
  have hstk : (F0 m pc ls ((As.reverse ++ va_rf (some b) :: rest).map (vr E))).stack = (As.map (vr E)).reverse ++ .ref (ad E b) :: rest.map (vr E) := by
    show (As.reverse ++ va_rf (some b) :: rest).map (vr E) = _
    rw [List.map_append, List.map_reverse]; rfl
  have hrun : va_Run p l e R s m args below meth c H locs (hM h - B.1.1) (hZ h - B.1.2) (hM hf - hM h) (hZ hf - hZ h) (F0 m pc ls ((As.reverse ++ va_rf (some b) :: rest).map (vr E))) (rest.map (vr E)) (Qc E rf hf (Value.ref (ad E b) :: As.map (vr E)).toArray) (fr E) := by
    rcases ml with ml | ⟨host, ml⟩
    · exact va_runV fix hM0 ⟨⟨ok.1.1, ok.1.2.1, ok.1.2.2.1, ok.1.2.2.2.1, ok.1.2.2.2.2.1, ok.1.2.2.2.2.2, ok.2.1, ok.2.2.1, ok.2.2.2.1, ok.2.2.2.2, hts _ ml⟩, hts _ cm.2.1, hts _ cm.2.2⟩ hp rfl (by rw [List.length_map]; exact hn) (by show ls.size = _; rw [hl.1, hL]) hstk (by show 2 * 0 + _ ≤ 8; rw [vr_sum]; omega) hd ⟨by omega, by omega⟩
    · exact va_runVN fix hM0 ⟨⟨ok.1, ok.2.1, ok.2.2.1, ok.2.2.2.1, ok.2.2.2.2, va_Nw.use rfl (F.2.2.2.2.2.2.2.2.1.2.1 _ ml)⟩, hts _ cm.2.1, hts _ cm.2.2⟩ hp rfl (by rw [List.length_map]; exact hn) (by show ls.size = _; rw [hl.1, hL]) hstk (by show 2 * 0 + _ ≤ 8; rw [vr_sum]; omega) hd ⟨by omega, by omega⟩
  refine wx_call hrun hS (fun H1 locs1 g1 g2 => ?_)
  have kk := kx (by omega) (by omega) hL p e s m args below meth c H1 locs1 ls F g1 g2 hl
  rw [show hM hf - B.1.1 = hM h - B.1.1 + (hM hf - hM h) by omega, show hZ hf - B.1.2 = hZ h - B.1.2 + (hZ hf - hZ h) by omega, List.map_append] at kk
  rw [show (rf.map (vr E)).toList = rf.toList.map (vr E) by cases rf <;> rfl]
  exact kk
theorem ax_callI {mi2 : MI} {idx d n b : Nat} {As rest stk : List Value} {hf : AH} (hret : mi2.2.2.2 = none) (hA : AM l E d mi2 (va_rf (some b) :: As) h none hf) (ml : ML mi.1.cls idx mi2.1) (cm : CMi mi2 n) (hfr : d + 1 ≤ R.frames) (hlo : 8 + (mi2.2.2.1 + 11) + 64 * d ≤ R.locals) (hn : As.length = n) (hs : stk = As.reverse ++ va_rf (some b) :: rest) (hr8 : (rest.map fun v => v.category).sum ≤ 8) (hd : decode mi.2.1 pc = .ok (.invokespecial idx, 3)) (kx : AW l E mi R B Qf (pc + 3) L rest hf) : AW l E mi R B Qf pc L stk h := by
  subst hs
  obtain ⟨⟨m1, m2⟩, hM0⟩ := hA
  obtain ⟨⟨c1, c2, c3, c4⟩, kx⟩ := kx
  refine ⟨⟨by omega, by omega, c3, c4⟩, fun b1 b2 hL p e s m args below meth c H locs ls F hRH hS hl => ?_⟩
  have hts := F.2.2.2.2.2.2.2.1
  have ok := callOK (h := h) (hf := hf) (R := R) hts cm.1 hfr hlo rfl rfl
  rw [hret] at ok hM0
  have fix : CallFix p m c mi.2.1 mi.2.2.1 s args zgw mi.1.cls := ⟨F.1, F.2.1, F.2.2.1, F.2.2.2.2.2.1, hts⟩
  have hp : PreS s H (Pc E (va_rf (some b) :: As) h) (.ref (ad E b) :: As.map (vr E)) := ⟨blindP, fun U hU hW => ⟨rfl, RK.moved F.2.2.2.2.2.2.2.2.1 hS hU hW, by rw [hU]; exact hRH⟩⟩
  have hstk : (F0 m pc ls ((As.reverse ++ va_rf (some b) :: rest).map (vr E))).stack = (As.map (vr E)).reverse ++ .ref (ad E b) :: rest.map (vr E) := by
    show (As.reverse ++ va_rf (some b) :: rest).map (vr E) = _
    rw [List.map_append, List.map_reverse]; rfl
  have hrun : va_Run p l e R s m args below meth c H locs (hM h - B.1.1) (hZ h - B.1.2) (hM hf - hM h) (hZ hf - hZ h) (F0 m pc ls ((As.reverse ++ va_rf (some b) :: rest).map (vr E))) (rest.map (vr E)) (Qc E none hf (Value.ref (ad E b) :: As.map (vr E)).toArray) (fr E) := by
    rcases ml with ml | ⟨host, ml⟩
    · exact va_runI fix hM0 ⟨⟨ok.1.1, ok.1.2.1, ok.1.2.2.1, ok.1.2.2.2.1, ok.1.2.2.2.2.1, ok.1.2.2.2.2.2, ok.2.1, ok.2.2.1, ok.2.2.2.1, ok.2.2.2.2, hts _ ml⟩, cm.2.1, hts _ cm.2.2⟩ hp rfl (by rw [List.length_map]; exact hn) (by show ls.size = _; rw [hl.1, hL]) hstk (by show 2 * 0 + _ ≤ 8; rw [vr_sum]; omega) hd ⟨by omega, by omega⟩
    · exact va_runIN fix hM0 ⟨⟨ok.1, ok.2.1, ok.2.2.1, ok.2.2.2.1, ok.2.2.2.2, va_Nw.use rfl (F.2.2.2.2.2.2.2.2.1.2.1 _ ml)⟩, cm.2.1, hts _ cm.2.2⟩ hp rfl (by rw [List.length_map]; exact hn) (by show ls.size = _; rw [hl.1, hL]) hstk (by show 2 * 0 + _ ≤ 8; rw [vr_sum]; omega) hd ⟨by omega, by omega⟩
  refine wx_call hrun hS (fun H1 locs1 g1 g2 => ?_)
  have kk := kx (by omega) (by omega) hL p e s m args below meth c H1 locs1 ls F g1 g2 hl
  rw [show hM hf - B.1.1 = hM h - B.1.1 + (hM hf - hM h) by omega, show hZ hf - B.1.2 = hZ h - B.1.2 + (hZ hf - hZ h) by omega] at kk
  exact kk
theorem ax_callS {mi2 : MI} {idx d n : Nat} {As rest stk : List Value} {rf : Option Value} {hf : AH} (hA : AM l E d mi2 As h rf hf) (ml : ML mi.1.cls idx mi2.1) (cm : CMs mi2 n) (hfr : d + 1 ≤ R.frames) (hlo : 8 + (mi2.2.2.1 + 11) + 64 * d ≤ R.locals) (hn : As.length = n) (hs : stk = As.reverse ++ rest) (hr8 : (rest.map fun v => v.category).sum ≤ 8) (hd : decode mi.2.1 pc = .ok (.invokestatic idx, 3)) (kx : AW l E mi R B Qf (pc + 3) L (rf.toList ++ rest) hf) : AW l E mi R B Qf pc L stk h := by
  subst hs
  obtain ⟨⟨m1, m2⟩, hM0⟩ := hA
  obtain ⟨⟨c1, c2, c3, c4⟩, kx⟩ := kx
  refine ⟨⟨by omega, by omega, c3, c4⟩, fun b1 b2 hL p e s m args below meth c H locs ls F hRH hS hl => ?_⟩
  have hts := F.2.2.2.2.2.2.2.1
  have ok := callOK (h := h) (hf := hf) (R := R) hts cm.1 hfr hlo rfl rfl
  have fix : CallFix p m c mi.2.1 mi.2.2.1 s args zgw mi.1.cls := ⟨F.1, F.2.1, F.2.2.1, F.2.2.2.2.2.1, hts⟩
  have hp : PreS s H (Pc E As h) (As.map (vr E)) := ⟨blindP, fun U hU hW => ⟨rfl, RK.moved F.2.2.2.2.2.2.2.2.1 hS hU hW, by rw [hU]; exact hRH⟩⟩
  have hstk : (F0 m pc ls ((As.reverse ++ rest).map (vr E))).stack = (As.map (vr E)).reverse ++ rest.map (vr E) := by
    show (As.reverse ++ rest).map (vr E) = _
    rw [List.map_append, List.map_reverse]
  have hrun : va_Run p l e R s m args below meth c H locs (hM h - B.1.1) (hZ h - B.1.2) (hM hf - hM h) (hZ hf - hZ h) (F0 m pc ls ((As.reverse ++ rest).map (vr E))) (rest.map (vr E)) (Qc E rf hf (As.map (vr E)).toArray) (fr E) := by
    rcases ml with ml | ⟨host, ml⟩
    · exact va_runS fix hM0 ⟨⟨ok.1.1, ok.1.2.1, ok.1.2.2.1, ok.1.2.2.2.1, ok.1.2.2.2.2.1, ok.1.2.2.2.2.2, ok.2.1, ok.2.2.1, ok.2.2.2.1, ok.2.2.2.2, hts _ ml⟩, hts _ cm.2⟩ hp rfl (by rw [List.length_map]; exact hn) (by show ls.size = _; rw [hl.1, hL]) hstk (by show 2 * 0 + _ ≤ 8; rw [vr_sum]; omega) hd ⟨by omega, by omega⟩
    · exact va_runSN fix hM0 ⟨⟨ok.1, ok.2.1, ok.2.2.1, ok.2.2.2.1, ok.2.2.2.2, va_Nw.use rfl (F.2.2.2.2.2.2.2.2.1.2.1 _ ml)⟩, hts _ cm.2, trivial⟩ hp rfl (by rw [List.length_map]; exact hn) (by show ls.size = _; rw [hl.1, hL]) hstk (by show 2 * 0 + _ ≤ 8; rw [vr_sum]; omega) hd ⟨by omega, by omega⟩
  refine wx_call hrun hS (fun H1 locs1 g1 g2 => ?_)
  have kk := kx (by omega) (by omega) hL p e s m args below meth c H1 locs1 ls F g1 g2 hl
  rw [show hM hf - B.1.1 = hM h - B.1.1 + (hM hf - hM h) by omega, show hZ hf - B.1.2 = hZ h - B.1.2 + (hZ hf - hZ h) by omega, List.map_append] at kk
  rw [show (rf.map (vr E)).toList = rf.toList.map (vr E) by cases rf <;> rfl]
  exact kk
/-! returns -/
theorem ax_iret {d : Nat} {x : Int32} (hr : mi.2.2.2 = some .int) (hd : decode mi.2.1 pc = .ok (.ireturn, 1)) (hB : B.2 = (hM h, hZ h)) : AW l E mi (rmOf d B) B (MF E B (some (.int x)) h) pc L [.int x] h := by
  have e1 : (rmOf d B).cells = B.2.1 - B.1.1 := rfl
  have e2 : (rmOf d B).slots = B.2.2 - B.1.2 := rfl
  refine ⟨⟨by rw [hB]; exact Nat.le_refl _, by rw [hB]; exact Nat.le_refl _, by omega, by omega⟩, fun b1 b2 hL p e s m args below meth c H locs ls F hRH hS hl => ?_⟩
  exact W.iret F.1 F.2.1 (by rw [F.2.2.2.1]; exact hr) (fun t ht _ => ⟨rfl, by rw [ht]; exact hRH, hS.F ht⟩) (fun q hq => hS.2.2 q hq) hd F.2.2.2.2.1
theorem ax_zret {d : Nat} {x : Int32} (hr : mi.2.2.2 = some .boolean) (hx : x = 0 ∨ x = 1) (hd : decode mi.2.1 pc = .ok (.ireturn, 1)) (hB : B.2 = (hM h, hZ h)) : AW l E mi (rmOf d B) B (MF E B (some (.int x)) h) pc L [.int x] h := by
  have e1 : (rmOf d B).cells = B.2.1 - B.1.1 := rfl
  have e2 : (rmOf d B).slots = B.2.2 - B.1.2 := rfl
  refine ⟨⟨by rw [hB]; exact Nat.le_refl _, by rw [hB]; exact Nat.le_refl _, by omega, by omega⟩, fun b1 b2 hL p e s m args below meth c H locs ls F hRH hS hl => ?_⟩
  exact W.zret F.1 F.2.1 (by rw [F.2.2.2.1]; exact hr) (by rcases hx with rfl | rfl <;> rfl) (fun t ht _ => ⟨rfl, by rw [ht]; exact hRH, hS.F ht⟩) (fun q hq => hS.2.2 q hq) hd F.2.2.2.2.1
theorem ax_lret {d : Nat} {x : Int64} (hr : mi.2.2.2 = some .long) (hd : decode mi.2.1 pc = .ok (.lreturn, 1)) (hB : B.2 = (hM h, hZ h)) : AW l E mi (rmOf d B) B (MF E B (some (.long x)) h) pc L [.long x] h := by
  have e1 : (rmOf d B).cells = B.2.1 - B.1.1 := rfl
  have e2 : (rmOf d B).slots = B.2.2 - B.1.2 := rfl
  refine ⟨⟨by rw [hB]; exact Nat.le_refl _, by rw [hB]; exact Nat.le_refl _, by omega, by omega⟩, fun b1 b2 hL p e s m args below meth c H locs ls F hRH hS hl => ?_⟩
  exact W.lret F.1 F.2.1 (by rw [F.2.2.2.1]; exact hr) (fun t ht _ => ⟨rfl, by rw [ht]; exact hRH, hS.F ht⟩) (fun q hq => hS.2.2 q hq) hd F.2.2.2.2.1
theorem ax_vret {d : Nat} (hr : mi.2.2.2 = none) (hd : decode mi.2.1 pc = .ok (.return_, 1)) (hB : B.2 = (hM h, hZ h)) : AW l E mi (rmOf d B) B (MF E B none h) pc L [] h := by
  have e1 : (rmOf d B).cells = B.2.1 - B.1.1 := rfl
  have e2 : (rmOf d B).slots = B.2.2 - B.1.2 := rfl
  refine ⟨⟨by rw [hB]; exact Nat.le_refl _, by rw [hB]; exact Nat.le_refl _, by omega, by omega⟩, fun b1 b2 hL p e s m args below meth c H locs ls F hRH hS hl => ?_⟩
  exact W.vret F.1 F.2.1 (by rw [F.2.2.2.1]; exact hr) (fun t ht _ => ⟨rfl, by rw [ht]; exact hRH, hS.F ht⟩) (fun q hq => hS.2.2 q hq) hd F.2.2.2.2.1
theorem ax_aret {d : Nat} {r : Option Nat} {C : String} (hr : mi.2.2.2 = some (.object C)) (hd : decode mi.2.1 pc = .ok (.areturn, 1)) (hB : B.2 = (hM h, hZ h)) : AW l E mi (rmOf d B) B (MF E B (some (va_rf r)) h) pc L [va_rf r] h := by
  have e1 : (rmOf d B).cells = B.2.1 - B.1.1 := rfl
  have e2 : (rmOf d B).slots = B.2.2 - B.1.2 := rfl
  refine ⟨⟨by rw [hB]; exact Nat.le_refl _, by rw [hB]; exact Nat.le_refl _, by omega, by omega⟩, fun b1 b2 hL p e s m args below meth c H locs ls F hRH hS hl => ?_⟩
  exact W.aret (v := vr E (va_rf r)) F.1 F.2.1 (by rw [F.2.2.2.1]; exact hr) (Or.inl ⟨C, rfl⟩) (by cases r with | none => exact Or.inl rfl | some a => exact Or.inr ⟨_, rfl⟩) (fun t ht _ => ⟨rfl, by rw [ht]; exact hRH, hS.F ht⟩) (fun q hq => hS.2.2 q hq) hd F.2.2.2.2.1
/-! a method's start -/
def lsA : Nat → List Value → List (Option Value)
  | n, [] => List.replicate n none
  | n, .long x :: vs => some (.long x) :: none :: lsA (n - 2) vs
  | n, v :: vs => some v :: lsA (n - 1) vs
def argL : List Value → Nat
  | [] => 0
  | v :: vs => v.category + argL vs
theorem lg_len (E : EN) (av : List Value) : (lg_sl (av.map (vr E))).length = argL av := by
  induction av with
  | nil => rfl
  | cons v vs ih =>
    have e : lg_sl ((v :: vs).map (vr E)) = (if (vr E v).category = 2 then [.val (vr E v), .second] else [.val (vr E v)]) ++ lg_sl (vs.map (vr E)) := by simp [lg_sl]
    rw [e, List.length_append, ih, vr_cat]
    show _ = v.category + argL vs
    rcases lv_cat v with q | q <;> rw [q] <;> simp
/-- the locals at the start: the arguments in their places, nothing else known -/
theorem entry_L {av : List Value} {nL : Nat} (L0 : List (Option Value)) (hlen : L0.length = nL) (hn : argL av ≤ nL) (hL0 : ∀ (i : Nat) (v : Value), L0[i]? = some (some v) → (i, v) ∈ lv_args 0 av) : LH E ((lg_sl (av.map (vr E)) ++ List.replicate (nL - (lg_sl (av.map (vr E))).length) Slot.unset).toArray) L0 := by
  have h1 := lv_entry (av.map (vr E)) (n := nL) (by rw [lg_len]; exact hn)
  have key : ∀ (vs : List Value) (k i : Nat) (v : Value), (i, v) ∈ lv_args k vs → (i, vr E v) ∈ lv_args k (vs.map (vr E)) := by
    intro vs
    induction vs with
    | nil => intro k i v h; cases h
    | cons w ws ih =>
      intro k i v h
      simp only [lv_args, List.map_cons, vr_cat] at h ⊢
      rcases List.mem_cons.mp h with q | q
      · cases q; exact List.mem_cons_self
      · exact List.mem_cons_of_mem _ (ih _ i v q)
  exact ⟨by rw [hlen]; exact h1.1, h1.2.1, fun i v hv => h1.2.2 (i, vr E v) (key av 0 i v (hL0 i v hv))⟩
theorem am_of {d : Nat} {av : List Value} {rf : Option Value} {hf : AH} (L0 : List (Option Value)) (hy : plainName mi.1.cls = true) (hlen : L0.length = mi.2.2.1) (hn : argL av ≤ mi.2.2.1) (hL0 : ∀ (i : Nat) (v : Value), L0[i]? = some (some v) → (i, v) ∈ lv_args 0 av)
    (kx : AW l E mi (rmOf d (bOf h hf)) (bOf h hf) (MF E (bOf h hf) rf hf) 0 L0 [] h) : AM l E d mi av h rf hf := by
  obtain ⟨⟨c1, c2, c3, c4⟩, kx⟩ := kx
  refine ⟨⟨c1, c2⟩, Met.ofW (cc := mi.2.1) (maxL := mi.2.2.1) (ret := mi.2.2.2) hy rfl ?_⟩
  intro p e s m args below meth c s₁ Bd hml hv
  obtain ⟨rfl, hRK, hRH⟩ := hv
  have hts : ∀ w ∈ zgw, w.before ((av.map (vr E)).toArray) s = true := fun w hw => atoms_spec (ws := Cond.code mi.1 mi.2.1 mi.2.2.1 mi.2.2.2 :: zgw) Bd.pre w (List.mem_cons_of_mem _ hw)
  have hown : s.vm.findClass mi.1.cls = some m.cls := findClass_of_methodNamed Bd.named
  have hnm : meth.name = mi.1.name := (name_of_methodNamed Bd.named Bd.method).1
  have F : FX E mi p s m ((av.map (vr E)).toArray) meth c := ⟨Bd.exec, Bd.bytes, hml, Bd.returns, Bd.notSynchronized, hown, fun q => hnm.trans q, hts, hRK, by rw [hRH.2.1]; omega⟩
  rw [lg_entry_eq]
  have kk := kx (Nat.le_refl _) (Nat.le_refl _) hlen p e s m _ below meth c s.heap [] _ F hRH va_S.rf (entry_L L0 hlen hn hL0)
  rw [show hM h - (bOf h hf).1.1 = 0 from Nat.sub_self _, show hZ h - (bOf h hf).1.2 = 0 from Nat.sub_self _] at kk
  exact kk
end HC
