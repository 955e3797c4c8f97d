/-! THE RULES of the judgement, an instruction each: those that touch no cell -/
section AR
variable {l : Launch} {E : EN} {mi : MI} {R : Room} {B : (Nat × Nat) × (Nat × Nat)} {Qf : QF} {pc : Nat} {L : List (Option Value)} {st : List Value} {h : AH}
theorem ax_iconst {n : Int} (v : Int32) (hd : decode mi.2.1 pc = .ok (.iconst n, 1)) (hv : Int32.ofInt n = v) (k : AW l E mi R B Qf (pc + 1) L (.int v :: st) h) : AW l E mi R B Qf pc L (st) h :=
  ⟨k.1, fun b1 b2 hL p e s m args below meth c H locs ls F hR hS hl => lv_iconst F.1 F.2.1 hd hv (k.2 b1 b2 hL p e s m args below meth c H locs ls F hR hS hl)⟩
theorem ax_bipush {n : Int} (v : Int32) (hd : decode mi.2.1 pc = .ok (.bipush n, 2)) (hv : (Int8.ofInt n).toInt32 = v) (k : AW l E mi R B Qf (pc + 2) L (.int v :: st) h) : AW l E mi R B Qf pc L (st) h :=
  ⟨k.1, fun b1 b2 hL p e s m args below meth c H locs ls F hR hS hl => lv_bipush F.1 F.2.1 hd hv (k.2 b1 b2 hL p e s m args below meth c H locs ls F hR hS hl)⟩
theorem ax_sipush {n : Int} (v : Int32) (hd : decode mi.2.1 pc = .ok (.sipush n, 3)) (hv : (Int16.ofInt n).toInt32 = v) (k : AW l E mi R B Qf (pc + 3) L (.int v :: st) h) : AW l E mi R B Qf pc L (st) h :=
  ⟨k.1, fun b1 b2 hL p e s m args below meth c H locs ls F hR hS hl => lv_sipush F.1 F.2.1 hd hv (k.2 b1 b2 hL p e s m args below meth c H locs ls F hR hS hl)⟩
theorem ax_lconst {n : Fin 2} (v : Int64) (hd : decode mi.2.1 pc = .ok (.lconst n, 1)) (hv : Int64.ofNat (n : Nat) = v) (k : AW l E mi R B Qf (pc + 1) L (.long v :: st) h) : AW l E mi R B Qf pc L (st) h :=
  ⟨k.1, fun b1 b2 hL p e s m args below meth c H locs ls F hR hS hl => lv_lconst F.1 F.2.1 hd hv (k.2 b1 b2 hL p e s m args below meth c H locs ls F hR hS hl)⟩
theorem ax_null  (hd : decode mi.2.1 pc = .ok (.aconst_null, 1))  (k : AW l E mi R B Qf (pc + 1) L (va_rf none :: st) h) : AW l E mi R B Qf pc L (st) h :=
  ⟨k.1, fun b1 b2 hL p e s m args below meth c H locs ls F hR hS hl => lv_null F.1 F.2.1 hd (k.2 b1 b2 hL p e s m args below meth c H locs ls F hR hS hl)⟩
theorem ax_iload_n {j : Fin 4} {i : Nat} {x : Int32} (hd : decode mi.2.1 pc = .ok (.iload_n j, 1)) (hi : (j : Nat) = i) (hx : L[i]? = some (some (.int x))) (k : AW l E mi R B Qf (pc + 1) L (.int x :: st) h) : AW l E mi R B Qf pc L (st) h :=
  ⟨k.1, fun b1 b2 hL p e s m args below meth c H locs ls F hR hS hl => lv_iload_n F.1 F.2.1 hd hi (hl.2.2 i _ hx) (k.2 b1 b2 hL p e s m args below meth c H locs ls F hR hS hl)⟩
theorem ax_iload {i : Nat} {x : Int32} (hd : decode mi.2.1 pc = .ok (.iload i, 2)) (hx : L[i]? = some (some (.int x))) (k : AW l E mi R B Qf (pc + 2) L (.int x :: st) h) : AW l E mi R B Qf pc L (st) h :=
  ⟨k.1, fun b1 b2 hL p e s m args below meth c H locs ls F hR hS hl => lv_iload F.1 F.2.1 hd (hl.2.2 i _ hx) (k.2 b1 b2 hL p e s m args below meth c H locs ls F hR hS hl)⟩
theorem ax_lload_n {j : Fin 4} {i : Nat} {x : Int64} (hd : decode mi.2.1 pc = .ok (.lload_n j, 1)) (hi : (j : Nat) = i) (hx : L[i]? = some (some (.long x))) (k : AW l E mi R B Qf (pc + 1) L (.long x :: st) h) : AW l E mi R B Qf pc L (st) h :=
  ⟨k.1, fun b1 b2 hL p e s m args below meth c H locs ls F hR hS hl => lv_lload_n F.1 F.2.1 hd hi (hl.2.2 i _ hx) (k.2 b1 b2 hL p e s m args below meth c H locs ls F hR hS hl)⟩
theorem ax_lload {i : Nat} {x : Int64} (hd : decode mi.2.1 pc = .ok (.lload i, 2)) (hx : L[i]? = some (some (.long x))) (k : AW l E mi R B Qf (pc + 2) L (.long x :: st) h) : AW l E mi R B Qf pc L (st) h :=
  ⟨k.1, fun b1 b2 hL p e s m args below meth c H locs ls F hR hS hl => lv_lload F.1 F.2.1 hd (hl.2.2 i _ hx) (k.2 b1 b2 hL p e s m args below meth c H locs ls F hR hS hl)⟩
theorem ax_aload_n {j : Fin 4} {i : Nat} (r : Option Nat) (hd : decode mi.2.1 pc = .ok (.aload_n j, 1)) (hi : (j : Nat) = i) (hx : L[i]? = some (some (va_rf r))) (k : AW l E mi R B Qf (pc + 1) L (va_rf r :: st) h) : AW l E mi R B Qf pc L st h := by
  refine ⟨k.1, fun b1 b2 hL p e s m args below meth c H locs ls F hR hS hl => ?_⟩
  have hx2 := hl.2.2 i _ hx
  have k2 := (k.2 b1 b2 hL p e s m args below meth c H locs ls F hR hS hl)
  cases r with
  | none => exact lv_aload_nN F.1 F.2.1 hd hi hx2 k2
  | some a => exact lv_aload_n F.1 F.2.1 hd hi hx2 k2
theorem ax_aload {i : Nat} (r : Option Nat) (hd : decode mi.2.1 pc = .ok (.aload i, 2)) (hx : L[i]? = some (some (va_rf r))) (k : AW l E mi R B Qf (pc + 2) L (va_rf r :: st) h) : AW l E mi R B Qf pc L st h := by
  refine ⟨k.1, fun b1 b2 hL p e s m args below meth c H locs ls F hR hS hl => ?_⟩
  have hx2 := hl.2.2 i _ hx
  have k2 := (k.2 b1 b2 hL p e s m args below meth c H locs ls F hR hS hl)
  cases r with
  | none => exact lv_aloadN F.1 F.2.1 hd hx2 k2
  | some a => exact lv_aload F.1 F.2.1 hd hx2 k2
theorem ax_istore_n {j : Fin 4} {i : Nat} {x : Int32} (L' : List (Option Value)) (hd : decode mi.2.1 pc = .ok (.istore_n j, 1)) (hi : (j : Nat) = i) (hn : i < L.length) (hc : i = 0 ∨ ∀ w, L[i - 1]? = some (some w) → w.category = 1) (hL' : L.set i (some (.int x)) = L') (k : AW l E mi R B Qf (pc + 1) L' st h) : AW l E mi R B Qf pc L (.int x :: st) h := by
  subst hL'
  exact ⟨k.1, fun b1 b2 hL p e s m args below meth c H locs ls F hR hS hl => lv_istore_n F.1 F.2.1 hd hi hl.has hn rfl (fun ls' h' => k.2 b1 b2 (by rw [List.length_set]; exact hL) p e s m args below meth c H locs ls' F hR hS (LH.st1 (v := .int x) h' hc))⟩
theorem ax_istore {i : Nat} {x : Int32} (L' : List (Option Value)) (hd : decode mi.2.1 pc = .ok (.istore i, 2)) (hn : i < L.length) (hc : i = 0 ∨ ∀ w, L[i - 1]? = some (some w) → w.category = 1) (hL' : L.set i (some (.int x)) = L') (k : AW l E mi R B Qf (pc + 2) L' st h) : AW l E mi R B Qf pc L (.int x :: st) h := by
  subst hL'
  exact ⟨k.1, fun b1 b2 hL p e s m args below meth c H locs ls F hR hS hl => lv_istore F.1 F.2.1 hd hl.has hn rfl (fun ls' h' => k.2 b1 b2 (by rw [List.length_set]; exact hL) p e s m args below meth c H locs ls' F hR hS (LH.st1 (v := .int x) h' hc))⟩
theorem ax_lstore_n {j : Fin 4} {i : Nat} {x : Int64} (L' : List (Option Value)) (hd : decode mi.2.1 pc = .ok (.lstore_n j, 1)) (hi : (j : Nat) = i) (hn : i + 1 < L.length) (hc : i = 0 ∨ ∀ w, L[i - 1]? = some (some w) → w.category = 1) (hL' : (L.set (i + 1) none).set i (some (.long x)) = L') (k : AW l E mi R B Qf (pc + 1) L' st h) : AW l E mi R B Qf pc L (.long x :: st) h := by
  subst hL'
  exact ⟨k.1, fun b1 b2 hL p e s m args below meth c H locs ls F hR hS hl => lv_lstore_n F.1 F.2.1 hd hi hl.has hn rfl (fun ls' h' => k.2 b1 b2 (by rw [List.length_set, List.length_set]; exact hL) p e s m args below meth c H locs ls' F hR hS (LH.st2 (v := .long x) h' hc))⟩
theorem ax_lstore {i : Nat} {x : Int64} (L' : List (Option Value)) (hd : decode mi.2.1 pc = .ok (.lstore i, 2)) (hn : i + 1 < L.length) (hc : i = 0 ∨ ∀ w, L[i - 1]? = some (some w) → w.category = 1) (hL' : (L.set (i + 1) none).set i (some (.long x)) = L') (k : AW l E mi R B Qf (pc + 2) L' st h) : AW l E mi R B Qf pc L (.long x :: st) h := by
  subst hL'
  exact ⟨k.1, fun b1 b2 hL p e s m args below meth c H locs ls F hR hS hl => lv_lstore F.1 F.2.1 hd hl.has hn rfl (fun ls' h' => k.2 b1 b2 (by rw [List.length_set, List.length_set]; exact hL) p e s m args below meth c H locs ls' F hR hS (LH.st2 (v := .long x) h' hc))⟩
theorem ax_astore_n {j : Fin 4} {i : Nat} {r : Option Nat} (L' : List (Option Value)) (hd : decode mi.2.1 pc = .ok (.astore_n j, 1)) (hi : (j : Nat) = i) (hn : i < L.length) (hc : i = 0 ∨ ∀ w, L[i - 1]? = some (some w) → w.category = 1) (hL' : L.set i (some (va_rf r)) = L') (k : AW l E mi R B Qf (pc + 1) L' st h) : AW l E mi R B Qf pc L (va_rf r :: st) h := by
  subst hL'
  refine ⟨k.1, fun b1 b2 hL p e s m args below meth c H locs ls F hR hS hl => ?_⟩
  cases r with
  | none => exact lv_astore_nN F.1 F.2.1 hd hi hl.has hn rfl (fun ls' h' => k.2 b1 b2 (by rw [List.length_set]; exact hL) p e s m args below meth c H locs ls' F hR hS (LH.st1 (v := .null) h' hc))
  | some a => exact lv_astore_n F.1 F.2.1 hd hi hl.has hn rfl (fun ls' h' => k.2 b1 b2 (by rw [List.length_set]; exact hL) p e s m args below meth c H locs ls' F hR hS (LH.st1 (v := .ref a) h' hc))
theorem ax_astore {i : Nat} {r : Option Nat} (L' : List (Option Value)) (hd : decode mi.2.1 pc = .ok (.astore i, 2)) (hn : i < L.length) (hc : i = 0 ∨ ∀ w, L[i - 1]? = some (some w) → w.category = 1) (hL' : L.set i (some (va_rf r)) = L') (k : AW l E mi R B Qf (pc + 2) L' st h) : AW l E mi R B Qf pc L (va_rf r :: st) h := by
  subst hL'
  refine ⟨k.1, fun b1 b2 hL p e s m args below meth c H locs ls F hR hS hl => ?_⟩
  cases r with
  | none => exact lv_astoreN F.1 F.2.1 hd hl.has hn rfl (fun ls' h' => k.2 b1 b2 (by rw [List.length_set]; exact hL) p e s m args below meth c H locs ls' F hR hS (LH.st1 (v := .null) h' hc))
  | some a => exact lv_astore F.1 F.2.1 hd hl.has hn rfl (fun ls' h' => k.2 b1 b2 (by rw [List.length_set]; exact hL) p e s m args below meth c H locs ls' F hR hS (LH.st1 (v := .ref a) h' hc))
theorem ax_iinc {i : Nat} {n : Int} {x : Int32} (v : Int32) (L' : List (Option Value)) (hd : decode mi.2.1 pc = .ok (.iinc i n, 3)) (hx : L[i]? = some (some (.int x))) (hv : x + Int32.ofInt n = v) (hc : i = 0 ∨ ∀ w, L[i - 1]? = some (some w) → w.category = 1) (hL' : L.set i (some (.int v)) = L') (k : AW l E mi R B Qf (pc + 3) L' st h) : AW l E mi R B Qf pc L st h := by
  subst hL'
  refine ⟨k.1, fun b1 b2 hL p e s m args below meth c H locs ls F hR hS hl => ?_⟩
  obtain ⟨kq, hk⟩ := List.getElem?_of_mem (lpairs_mem (E := E) hx)
  exact lv_iinc F.1 F.2.1 hd hl.has (k := kq) hk hv (List.getElem?_eq_some_iff.mp hx).1 rfl (fun ls' h' => k.2 b1 b2 (by rw [List.length_set]; exact hL) p e s m args below meth c H locs ls' F hR hS (LH.st1 (v := .int v) h' hc))
theorem ax_iadd {x y : Int32} (hd : decode mi.2.1 pc = .ok (.iadd, 1))  (k : AW l E mi R B Qf (pc + 1) L (.int (x + y) :: st) h) : AW l E mi R B Qf pc L (.int y :: .int x :: st) h :=
  ⟨k.1, fun b1 b2 hL p e s m args below meth c H locs ls F hR hS hl => lv_iadd F.1 F.2.1 hd (k.2 b1 b2 hL p e s m args below meth c H locs ls F hR hS hl)⟩
theorem ax_isub {x y : Int32} (hd : decode mi.2.1 pc = .ok (.isub, 1))  (k : AW l E mi R B Qf (pc + 1) L (.int (x - y) :: st) h) : AW l E mi R B Qf pc L (.int y :: .int x :: st) h :=
  ⟨k.1, fun b1 b2 hL p e s m args below meth c H locs ls F hR hS hl => lv_isub F.1 F.2.1 hd (k.2 b1 b2 hL p e s m args below meth c H locs ls F hR hS hl)⟩
theorem ax_imul {x y : Int32} (hd : decode mi.2.1 pc = .ok (.imul, 1))  (k : AW l E mi R B Qf (pc + 1) L (.int (x * y) :: st) h) : AW l E mi R B Qf pc L (.int y :: .int x :: st) h :=
  ⟨k.1, fun b1 b2 hL p e s m args below meth c H locs ls F hR hS hl => lv_imul F.1 F.2.1 hd (k.2 b1 b2 hL p e s m args below meth c H locs ls F hR hS hl)⟩
theorem ax_iand {x y : Int32} (hd : decode mi.2.1 pc = .ok (.iand, 1))  (k : AW l E mi R B Qf (pc + 1) L (.int (x &&& y) :: st) h) : AW l E mi R B Qf pc L (.int y :: .int x :: st) h :=
  ⟨k.1, fun b1 b2 hL p e s m args below meth c H locs ls F hR hS hl => lv_iand F.1 F.2.1 hd (k.2 b1 b2 hL p e s m args below meth c H locs ls F hR hS hl)⟩
theorem ax_ior {x y : Int32} (hd : decode mi.2.1 pc = .ok (.ior, 1))  (k : AW l E mi R B Qf (pc + 1) L (.int (x ||| y) :: st) h) : AW l E mi R B Qf pc L (.int y :: .int x :: st) h :=
  ⟨k.1, fun b1 b2 hL p e s m args below meth c H locs ls F hR hS hl => lv_ior F.1 F.2.1 hd (k.2 b1 b2 hL p e s m args below meth c H locs ls F hR hS hl)⟩
theorem ax_ixor {x y : Int32} (hd : decode mi.2.1 pc = .ok (.ixor, 1))  (k : AW l E mi R B Qf (pc + 1) L (.int (x ^^^ y) :: st) h) : AW l E mi R B Qf pc L (.int y :: .int x :: st) h :=
  ⟨k.1, fun b1 b2 hL p e s m args below meth c H locs ls F hR hS hl => lv_ixor F.1 F.2.1 hd (k.2 b1 b2 hL p e s m args below meth c H locs ls F hR hS hl)⟩
theorem ax_ishl {x y : Int32} (hd : decode mi.2.1 pc = .ok (.ishl, 1))  (k : AW l E mi R B Qf (pc + 1) L (.int (x <<< (y &&& 31)) :: st) h) : AW l E mi R B Qf pc L (.int y :: .int x :: st) h :=
  ⟨k.1, fun b1 b2 hL p e s m args below meth c H locs ls F hR hS hl => lv_ishl F.1 F.2.1 hd (k.2 b1 b2 hL p e s m args below meth c H locs ls F hR hS hl)⟩
theorem ax_ishr {x y : Int32} (hd : decode mi.2.1 pc = .ok (.ishr, 1))  (k : AW l E mi R B Qf (pc + 1) L (.int (x >>> (y &&& 31)) :: st) h) : AW l E mi R B Qf pc L (.int y :: .int x :: st) h :=
  ⟨k.1, fun b1 b2 hL p e s m args below meth c H locs ls F hR hS hl => lv_ishr F.1 F.2.1 hd (k.2 b1 b2 hL p e s m args below meth c H locs ls F hR hS hl)⟩
theorem ax_ladd {x y : Int64} (hd : decode mi.2.1 pc = .ok (.ladd, 1))  (k : AW l E mi R B Qf (pc + 1) L (.long (x + y) :: st) h) : AW l E mi R B Qf pc L (.long y :: .long x :: st) h :=
  ⟨k.1, fun b1 b2 hL p e s m args below meth c H locs ls F hR hS hl => lv_ladd F.1 F.2.1 hd (k.2 b1 b2 hL p e s m args below meth c H locs ls F hR hS hl)⟩
theorem ax_lsub {x y : Int64} (hd : decode mi.2.1 pc = .ok (.lsub, 1))  (k : AW l E mi R B Qf (pc + 1) L (.long (x - y) :: st) h) : AW l E mi R B Qf pc L (.long y :: .long x :: st) h :=
  ⟨k.1, fun b1 b2 hL p e s m args below meth c H locs ls F hR hS hl => lv_lsub F.1 F.2.1 hd (k.2 b1 b2 hL p e s m args below meth c H locs ls F hR hS hl)⟩
theorem ax_lmul {x y : Int64} (hd : decode mi.2.1 pc = .ok (.lmul, 1))  (k : AW l E mi R B Qf (pc + 1) L (.long (x * y) :: st) h) : AW l E mi R B Qf pc L (.long y :: .long x :: st) h :=
  ⟨k.1, fun b1 b2 hL p e s m args below meth c H locs ls F hR hS hl => lv_lmul F.1 F.2.1 hd (k.2 b1 b2 hL p e s m args below meth c H locs ls F hR hS hl)⟩
theorem ax_land {x y : Int64} (hd : decode mi.2.1 pc = .ok (.land, 1))  (k : AW l E mi R B Qf (pc + 1) L (.long (x &&& y) :: st) h) : AW l E mi R B Qf pc L (.long y :: .long x :: st) h :=
  ⟨k.1, fun b1 b2 hL p e s m args below meth c H locs ls F hR hS hl => lv_land F.1 F.2.1 hd (k.2 b1 b2 hL p e s m args below meth c H locs ls F hR hS hl)⟩
theorem ax_lor {x y : Int64} (hd : decode mi.2.1 pc = .ok (.lor, 1))  (k : AW l E mi R B Qf (pc + 1) L (.long (x ||| y) :: st) h) : AW l E mi R B Qf pc L (.long y :: .long x :: st) h :=
  ⟨k.1, fun b1 b2 hL p e s m args below meth c H locs ls F hR hS hl => lv_lor F.1 F.2.1 hd (k.2 b1 b2 hL p e s m args below meth c H locs ls F hR hS hl)⟩
theorem ax_lxor {x y : Int64} (hd : decode mi.2.1 pc = .ok (.lxor, 1))  (k : AW l E mi R B Qf (pc + 1) L (.long (x ^^^ y) :: st) h) : AW l E mi R B Qf pc L (.long y :: .long x :: st) h :=
  ⟨k.1, fun b1 b2 hL p e s m args below meth c H locs ls F hR hS hl => lv_lxor F.1 F.2.1 hd (k.2 b1 b2 hL p e s m args below meth c H locs ls F hR hS hl)⟩
theorem ax_idiv {x y : Int32} (hd : decode mi.2.1 pc = .ok (.idiv, 1)) (hne : ¬ y = 0) (k : AW l E mi R B Qf (pc + 1) L (.int (x / y) :: st) h) : AW l E mi R B Qf pc L (.int y :: .int x :: st) h :=
  ⟨k.1, fun b1 b2 hL p e s m args below meth c H locs ls F hR hS hl => lv_idiv F.1 F.2.1 hd hne (k.2 b1 b2 hL p e s m args below meth c H locs ls F hR hS hl)⟩
theorem ax_irem {x y : Int32} (hd : decode mi.2.1 pc = .ok (.irem, 1)) (hne : ¬ y = 0) (k : AW l E mi R B Qf (pc + 1) L (.int (x - x / y * y) :: st) h) : AW l E mi R B Qf pc L (.int y :: .int x :: st) h :=
  ⟨k.1, fun b1 b2 hL p e s m args below meth c H locs ls F hR hS hl => lv_irem F.1 F.2.1 hd hne (k.2 b1 b2 hL p e s m args below meth c H locs ls F hR hS hl)⟩
theorem ax_ldiv {x y : Int64} (hd : decode mi.2.1 pc = .ok (.ldiv, 1)) (hne : ¬ y = 0) (k : AW l E mi R B Qf (pc + 1) L (.long (x / y) :: st) h) : AW l E mi R B Qf pc L (.long y :: .long x :: st) h :=
  ⟨k.1, fun b1 b2 hL p e s m args below meth c H locs ls F hR hS hl => lv_ldiv F.1 F.2.1 hd hne (k.2 b1 b2 hL p e s m args below meth c H locs ls F hR hS hl)⟩
theorem ax_lrem {x y : Int64} (hd : decode mi.2.1 pc = .ok (.lrem, 1)) (hne : ¬ y = 0) (k : AW l E mi R B Qf (pc + 1) L (.long (x - x / y * y) :: st) h) : AW l E mi R B Qf pc L (.long y :: .long x :: st) h :=
  ⟨k.1, fun b1 b2 hL p e s m args below meth c H locs ls F hR hS hl => lv_lrem F.1 F.2.1 hd hne (k.2 b1 b2 hL p e s m args below meth c H locs ls F hR hS hl)⟩
theorem ax_ineg {x : Int32} (hd : decode mi.2.1 pc = .ok (.ineg, 1))  (k : AW l E mi R B Qf (pc + 1) L (.int (-x) :: st) h) : AW l E mi R B Qf pc L (.int x :: st) h :=
  ⟨k.1, fun b1 b2 hL p e s m args below meth c H locs ls F hR hS hl => lv_ineg F.1 F.2.1 hd (k.2 b1 b2 hL p e s m args below meth c H locs ls F hR hS hl)⟩
theorem ax_lneg {x : Int64} (hd : decode mi.2.1 pc = .ok (.lneg, 1))  (k : AW l E mi R B Qf (pc + 1) L (.long (-x) :: st) h) : AW l E mi R B Qf pc L (.long x :: st) h :=
  ⟨k.1, fun b1 b2 hL p e s m args below meth c H locs ls F hR hS hl => lv_lneg F.1 F.2.1 hd (k.2 b1 b2 hL p e s m args below meth c H locs ls F hR hS hl)⟩
def xushr (x y : Int32) : Int32 := (x.toUInt32 >>> (y.toUInt32 &&& Int32.toUInt32 31)).toInt32
def xlushr (x : Int64) (y : Int32) : Int64 := (x.toUInt64 >>> (y.toInt64.toUInt64 &&& Int64.toUInt64 63)).toInt64
def xlshl (x : Int64) (y : Int32) : Int64 := x <<< (y.toInt64 &&& 63)
def xlshr (x : Int64) (y : Int32) : Int64 := x >>> (y.toInt64 &&& 63)
theorem ax_iushr {x y : Int32} (hd : decode mi.2.1 pc = .ok (.iushr, 1))  (k : AW l E mi R B Qf (pc + 1) L (.int (xushr x y) :: st) h) : AW l E mi R B Qf pc L (.int y :: .int x :: st) h :=
  ⟨k.1, fun b1 b2 hL p e s m args below meth c H locs ls F hR hS hl => lv_iushr F.1 F.2.1 hd rfl (k.2 b1 b2 hL p e s m args below meth c H locs ls F hR hS hl)⟩
theorem ax_lushr {x : Int64} {y : Int32} (hd : decode mi.2.1 pc = .ok (.lushr, 1))  (k : AW l E mi R B Qf (pc + 1) L (.long (xlushr x y) :: st) h) : AW l E mi R B Qf pc L (.int y :: .long x :: st) h :=
  ⟨k.1, fun b1 b2 hL p e s m args below meth c H locs ls F hR hS hl => lv_lushr F.1 F.2.1 hd rfl (k.2 b1 b2 hL p e s m args below meth c H locs ls F hR hS hl)⟩
theorem ax_lshl {x : Int64} {y : Int32} (hd : decode mi.2.1 pc = .ok (.lshl, 1))  (k : AW l E mi R B Qf (pc + 1) L (.long (xlshl x y) :: st) h) : AW l E mi R B Qf pc L (.int y :: .long x :: st) h :=
  ⟨k.1, fun b1 b2 hL p e s m args below meth c H locs ls F hR hS hl => lv_lshl F.1 F.2.1 hd rfl (k.2 b1 b2 hL p e s m args below meth c H locs ls F hR hS hl)⟩
theorem ax_lshr {x : Int64} {y : Int32} (hd : decode mi.2.1 pc = .ok (.lshr, 1))  (k : AW l E mi R B Qf (pc + 1) L (.long (xlshr x y) :: st) h) : AW l E mi R B Qf pc L (.int y :: .long x :: st) h :=
  ⟨k.1, fun b1 b2 hL p e s m args below meth c H locs ls F hR hS hl => lv_lshr F.1 F.2.1 hd rfl (k.2 b1 b2 hL p e s m args below meth c H locs ls F hR hS hl)⟩
theorem ax_i2l {x : Int32} (hd : decode mi.2.1 pc = .ok (.i2l, 1))  (k : AW l E mi R B Qf (pc + 1) L (.long x.toInt64 :: st) h) : AW l E mi R B Qf pc L (.int x :: st) h :=
  ⟨k.1, fun b1 b2 hL p e s m args below meth c H locs ls F hR hS hl => lv_i2l F.1 F.2.1 hd rfl (k.2 b1 b2 hL p e s m args below meth c H locs ls F hR hS hl)⟩
theorem ax_l2i {x : Int64} (hd : decode mi.2.1 pc = .ok (.l2i, 1))  (k : AW l E mi R B Qf (pc + 1) L (.int x.toInt32 :: st) h) : AW l E mi R B Qf pc L (.long x :: st) h :=
  ⟨k.1, fun b1 b2 hL p e s m args below meth c H locs ls F hR hS hl => lv_l2i F.1 F.2.1 hd rfl (k.2 b1 b2 hL p e s m args below meth c H locs ls F hR hS hl)⟩
theorem ax_i2b {x : Int32} (hd : decode mi.2.1 pc = .ok (.i2b, 1))  (k : AW l E mi R B Qf (pc + 1) L (.int x.toInt8.toInt32 :: st) h) : AW l E mi R B Qf pc L (.int x :: st) h :=
  ⟨k.1, fun b1 b2 hL p e s m args below meth c H locs ls F hR hS hl => lv_i2b F.1 F.2.1 hd rfl (k.2 b1 b2 hL p e s m args below meth c H locs ls F hR hS hl)⟩
theorem ax_lcmp {x y : Int64} (hd : decode mi.2.1 pc = .ok (.lcmp, 1))  (k : AW l E mi R B Qf (pc + 1) L (.int (lg_cmp x y) :: st) h) : AW l E mi R B Qf pc L (.long y :: .long x :: st) h :=
  ⟨k.1, fun b1 b2 hL p e s m args below meth c H locs ls F hR hS hl => W.lcmp F.1 F.2.1 hd (k.2 b1 b2 hL p e s m args below meth c H locs ls F hR hS hl)⟩
theorem ax_dup {v : Value} (hd : decode mi.2.1 pc = .ok (.dup, 1)) (hv : v.category = 1) (k : AW l E mi R B Qf (pc + 1) L (v :: v :: st) h) : AW l E mi R B Qf pc L (v :: st) h :=
  ⟨k.1, fun b1 b2 hL p e s m args below meth c H locs ls F hR hS hl => lv_dup F.1 F.2.1 hd (by rw [vr_cat]; exact hv) (k.2 b1 b2 hL p e s m args below meth c H locs ls F hR hS hl)⟩
theorem ax_pop {v : Value} (hd : decode mi.2.1 pc = .ok (.pop, 1)) (hv : v.category = 1) (k : AW l E mi R B Qf (pc + 1) L (st) h) : AW l E mi R B Qf pc L (v :: st) h :=
  ⟨k.1, fun b1 b2 hL p e s m args below meth c H locs ls F hR hS hl => lv_pop F.1 F.2.1 hd (by rw [vr_cat]; exact hv) (k.2 b1 b2 hL p e s m args below meth c H locs ls F hR hS hl)⟩
theorem ax_dup2 {v w : Value} (hd : decode mi.2.1 pc = .ok (.dup2, 1)) (hv : v.category = 1) (hw : w.category = 1) (k : AW l E mi R B Qf (pc + 1) L (v :: w :: v :: w :: st) h) : AW l E mi R B Qf pc L (v :: w :: st) h :=
  ⟨k.1, fun b1 b2 hL p e s m args below meth c H locs ls F hR hS hl => lv_dup2_11 F.1 F.2.1 hd (by rw [vr_cat]; exact hv) (by rw [vr_cat]; exact hw) (k.2 b1 b2 hL p e s m args below meth c H locs ls F hR hS hl)⟩
theorem ax_goto {off : Int} (tgt : Nat) (hd : decode mi.2.1 pc = .ok (.goto off, 3)) (ht : (pc : Int) + off = (tgt : Int)) (k : AW l E mi R B Qf tgt L st h) : AW l E mi R B Qf pc L st h :=
  ⟨k.1, fun b1 b2 hL p e s m args below meth c H locs ls F hR hS hl => lv_goto F.1 F.2.1 hd ht (k.2 b1 b2 hL p e s m args below meth c H locs ls F hR hS hl)⟩
theorem i32_le {x y : Int32} (h : ¬ x < y) : y ≤ x := Int32.not_lt.mp h
theorem i32_nle {x y : Int32} (h : x < y) : ¬ y ≤ x := Int32.not_le.mpr h
theorem ax_icmp_eqT {x y : Int32} {off : Int} (tgt : Nat) (hd : decode mi.2.1 pc = .ok (.if_icmp .eq off, 3)) (ht : (pc : Int) + off = (tgt : Int)) (hc : x = y) (k : AW l E mi R B Qf tgt L st h) : AW l E mi R B Qf pc L (.int y :: .int x :: st) h :=
  ⟨k.1, fun b1 b2 hL p e s m args below meth c H locs ls F hR hS hl => lv_icmp_eq F.1 F.2.1 hd ht (fun _ => (k.2 b1 b2 hL p e s m args below meth c H locs ls F hR hS hl)) (fun q => absurd (hc) q)⟩
theorem ax_icmp_eqF {x y : Int32} {off : Int} (tgt : Nat) (hd : decode mi.2.1 pc = .ok (.if_icmp .eq off, 3)) (ht : (pc : Int) + off = (tgt : Int)) (hc : ¬ x = y) (k : AW l E mi R B Qf (pc + 3) L st h) : AW l E mi R B Qf pc L (.int y :: .int x :: st) h :=
  ⟨k.1, fun b1 b2 hL p e s m args below meth c H locs ls F hR hS hl => lv_icmp_eq F.1 F.2.1 hd ht (fun q => absurd q (hc)) (fun _ => (k.2 b1 b2 hL p e s m args below meth c H locs ls F hR hS hl))⟩
theorem ax_if_eqT {x : Int32} {off : Int} (tgt : Nat) (hd : decode mi.2.1 pc = .ok (.ifCond .eq off, 3)) (ht : (pc : Int) + off = (tgt : Int)) (hc : x = 0) (k : AW l E mi R B Qf tgt L st h) : AW l E mi R B Qf pc L (.int x :: st) h :=
  ⟨k.1, fun b1 b2 hL p e s m args below meth c H locs ls F hR hS hl => lv_if_eq F.1 F.2.1 hd ht (fun _ => (k.2 b1 b2 hL p e s m args below meth c H locs ls F hR hS hl)) (fun q => absurd (hc) q)⟩
theorem ax_if_eqF {x : Int32} {off : Int} (tgt : Nat) (hd : decode mi.2.1 pc = .ok (.ifCond .eq off, 3)) (ht : (pc : Int) + off = (tgt : Int)) (hc : ¬ x = 0) (k : AW l E mi R B Qf (pc + 3) L st h) : AW l E mi R B Qf pc L (.int x :: st) h :=
  ⟨k.1, fun b1 b2 hL p e s m args below meth c H locs ls F hR hS hl => lv_if_eq F.1 F.2.1 hd ht (fun q => absurd q (hc)) (fun _ => (k.2 b1 b2 hL p e s m args below meth c H locs ls F hR hS hl))⟩
theorem ax_icmp_neT {x y : Int32} {off : Int} (tgt : Nat) (hd : decode mi.2.1 pc = .ok (.if_icmp .ne off, 3)) (ht : (pc : Int) + off = (tgt : Int)) (hc : ¬ x = y) (k : AW l E mi R B Qf tgt L st h) : AW l E mi R B Qf pc L (.int y :: .int x :: st) h :=
  ⟨k.1, fun b1 b2 hL p e s m args below meth c H locs ls F hR hS hl => lv_icmp_ne F.1 F.2.1 hd ht (fun _ => (k.2 b1 b2 hL p e s m args below meth c H locs ls F hR hS hl)) (fun q => absurd q hc)⟩
theorem ax_icmp_neF {x y : Int32} {off : Int} (tgt : Nat) (hd : decode mi.2.1 pc = .ok (.if_icmp .ne off, 3)) (ht : (pc : Int) + off = (tgt : Int)) (hc : x = y) (k : AW l E mi R B Qf (pc + 3) L st h) : AW l E mi R B Qf pc L (.int y :: .int x :: st) h :=
  ⟨k.1, fun b1 b2 hL p e s m args below meth c H locs ls F hR hS hl => lv_icmp_ne F.1 F.2.1 hd ht (fun q => absurd q ((fun z => z hc))) (fun _ => (k.2 b1 b2 hL p e s m args below meth c H locs ls F hR hS hl))⟩
theorem ax_if_neT {x : Int32} {off : Int} (tgt : Nat) (hd : decode mi.2.1 pc = .ok (.ifCond .ne off, 3)) (ht : (pc : Int) + off = (tgt : Int)) (hc : ¬ x = 0) (k : AW l E mi R B Qf tgt L st h) : AW l E mi R B Qf pc L (.int x :: st) h :=
  ⟨k.1, fun b1 b2 hL p e s m args below meth c H locs ls F hR hS hl => lv_if_ne F.1 F.2.1 hd ht (fun _ => (k.2 b1 b2 hL p e s m args below meth c H locs ls F hR hS hl)) (fun q => absurd q hc)⟩
theorem ax_if_neF {x : Int32} {off : Int} (tgt : Nat) (hd : decode mi.2.1 pc = .ok (.ifCond .ne off, 3)) (ht : (pc : Int) + off = (tgt : Int)) (hc : x = 0) (k : AW l E mi R B Qf (pc + 3) L st h) : AW l E mi R B Qf pc L (.int x :: st) h :=
  ⟨k.1, fun b1 b2 hL p e s m args below meth c H locs ls F hR hS hl => lv_if_ne F.1 F.2.1 hd ht (fun q => absurd q ((fun z => z hc))) (fun _ => (k.2 b1 b2 hL p e s m args below meth c H locs ls F hR hS hl))⟩
theorem ax_icmp_ltT {x y : Int32} {off : Int} (tgt : Nat) (hd : decode mi.2.1 pc = .ok (.if_icmp .lt off, 3)) (ht : (pc : Int) + off = (tgt : Int)) (hc : x < y) (k : AW l E mi R B Qf tgt L st h) : AW l E mi R B Qf pc L (.int y :: .int x :: st) h :=
  ⟨k.1, fun b1 b2 hL p e s m args below meth c H locs ls F hR hS hl => lv_icmp_lt F.1 F.2.1 hd ht (fun _ => (k.2 b1 b2 hL p e s m args below meth c H locs ls F hR hS hl)) (fun q => absurd (hc) q)⟩
theorem ax_icmp_ltF {x y : Int32} {off : Int} (tgt : Nat) (hd : decode mi.2.1 pc = .ok (.if_icmp .lt off, 3)) (ht : (pc : Int) + off = (tgt : Int)) (hc : ¬ x < y) (k : AW l E mi R B Qf (pc + 3) L st h) : AW l E mi R B Qf pc L (.int y :: .int x :: st) h :=
  ⟨k.1, fun b1 b2 hL p e s m args below meth c H locs ls F hR hS hl => lv_icmp_lt F.1 F.2.1 hd ht (fun q => absurd q (hc)) (fun _ => (k.2 b1 b2 hL p e s m args below meth c H locs ls F hR hS hl))⟩
theorem ax_if_ltT {x : Int32} {off : Int} (tgt : Nat) (hd : decode mi.2.1 pc = .ok (.ifCond .lt off, 3)) (ht : (pc : Int) + off = (tgt : Int)) (hc : x < 0) (k : AW l E mi R B Qf tgt L st h) : AW l E mi R B Qf pc L (.int x :: st) h :=
  ⟨k.1, fun b1 b2 hL p e s m args below meth c H locs ls F hR hS hl => lv_if_lt F.1 F.2.1 hd ht (fun _ => (k.2 b1 b2 hL p e s m args below meth c H locs ls F hR hS hl)) (fun q => absurd (hc) q)⟩
theorem ax_if_ltF {x : Int32} {off : Int} (tgt : Nat) (hd : decode mi.2.1 pc = .ok (.ifCond .lt off, 3)) (ht : (pc : Int) + off = (tgt : Int)) (hc : ¬ x < 0) (k : AW l E mi R B Qf (pc + 3) L st h) : AW l E mi R B Qf pc L (.int x :: st) h :=
  ⟨k.1, fun b1 b2 hL p e s m args below meth c H locs ls F hR hS hl => lv_if_lt F.1 F.2.1 hd ht (fun q => absurd q (hc)) (fun _ => (k.2 b1 b2 hL p e s m args below meth c H locs ls F hR hS hl))⟩
theorem ax_icmp_geT {x y : Int32} {off : Int} (tgt : Nat) (hd : decode mi.2.1 pc = .ok (.if_icmp .ge off, 3)) (ht : (pc : Int) + off = (tgt : Int)) (hc : ¬ x < y) (k : AW l E mi R B Qf tgt L st h) : AW l E mi R B Qf pc L (.int y :: .int x :: st) h :=
  ⟨k.1, fun b1 b2 hL p e s m args below meth c H locs ls F hR hS hl => lv_icmp_ge F.1 F.2.1 hd ht (fun _ => (k.2 b1 b2 hL p e s m args below meth c H locs ls F hR hS hl)) (fun q => absurd (i32_le hc) q)⟩
theorem ax_icmp_geF {x y : Int32} {off : Int} (tgt : Nat) (hd : decode mi.2.1 pc = .ok (.if_icmp .ge off, 3)) (ht : (pc : Int) + off = (tgt : Int)) (hc : x < y) (k : AW l E mi R B Qf (pc + 3) L st h) : AW l E mi R B Qf pc L (.int y :: .int x :: st) h :=
  ⟨k.1, fun b1 b2 hL p e s m args below meth c H locs ls F hR hS hl => lv_icmp_ge F.1 F.2.1 hd ht (fun q => absurd q (i32_nle hc)) (fun _ => (k.2 b1 b2 hL p e s m args below meth c H locs ls F hR hS hl))⟩
theorem ax_if_geT {x : Int32} {off : Int} (tgt : Nat) (hd : decode mi.2.1 pc = .ok (.ifCond .ge off, 3)) (ht : (pc : Int) + off = (tgt : Int)) (hc : ¬ x < 0) (k : AW l E mi R B Qf tgt L st h) : AW l E mi R B Qf pc L (.int x :: st) h :=
  ⟨k.1, fun b1 b2 hL p e s m args below meth c H locs ls F hR hS hl => lv_if_ge F.1 F.2.1 hd ht (fun _ => (k.2 b1 b2 hL p e s m args below meth c H locs ls F hR hS hl)) (fun q => absurd (i32_le hc) q)⟩
theorem ax_if_geF {x : Int32} {off : Int} (tgt : Nat) (hd : decode mi.2.1 pc = .ok (.ifCond .ge off, 3)) (ht : (pc : Int) + off = (tgt : Int)) (hc : x < 0) (k : AW l E mi R B Qf (pc + 3) L st h) : AW l E mi R B Qf pc L (.int x :: st) h :=
  ⟨k.1, fun b1 b2 hL p e s m args below meth c H locs ls F hR hS hl => lv_if_ge F.1 F.2.1 hd ht (fun q => absurd q (i32_nle hc)) (fun _ => (k.2 b1 b2 hL p e s m args below meth c H locs ls F hR hS hl))⟩
theorem ax_icmp_gtT {x y : Int32} {off : Int} (tgt : Nat) (hd : decode mi.2.1 pc = .ok (.if_icmp .gt off, 3)) (ht : (pc : Int) + off = (tgt : Int)) (hc : y < x) (k : AW l E mi R B Qf tgt L st h) : AW l E mi R B Qf pc L (.int y :: .int x :: st) h :=
  ⟨k.1, fun b1 b2 hL p e s m args below meth c H locs ls F hR hS hl => lv_icmp_gt F.1 F.2.1 hd ht (fun _ => (k.2 b1 b2 hL p e s m args below meth c H locs ls F hR hS hl)) (fun q => absurd (hc) q)⟩
theorem ax_icmp_gtF {x y : Int32} {off : Int} (tgt : Nat) (hd : decode mi.2.1 pc = .ok (.if_icmp .gt off, 3)) (ht : (pc : Int) + off = (tgt : Int)) (hc : ¬ y < x) (k : AW l E mi R B Qf (pc + 3) L st h) : AW l E mi R B Qf pc L (.int y :: .int x :: st) h :=
  ⟨k.1, fun b1 b2 hL p e s m args below meth c H locs ls F hR hS hl => lv_icmp_gt F.1 F.2.1 hd ht (fun q => absurd q (hc)) (fun _ => (k.2 b1 b2 hL p e s m args below meth c H locs ls F hR hS hl))⟩
theorem ax_if_gtT {x : Int32} {off : Int} (tgt : Nat) (hd : decode mi.2.1 pc = .ok (.ifCond .gt off, 3)) (ht : (pc : Int) + off = (tgt : Int)) (hc : 0 < x) (k : AW l E mi R B Qf tgt L st h) : AW l E mi R B Qf pc L (.int x :: st) h :=
  ⟨k.1, fun b1 b2 hL p e s m args below meth c H locs ls F hR hS hl => lv_if_gt F.1 F.2.1 hd ht (fun _ => (k.2 b1 b2 hL p e s m args below meth c H locs ls F hR hS hl)) (fun q => absurd (hc) q)⟩
theorem ax_if_gtF {x : Int32} {off : Int} (tgt : Nat) (hd : decode mi.2.1 pc = .ok (.ifCond .gt off, 3)) (ht : (pc : Int) + off = (tgt : Int)) (hc : ¬ 0 < x) (k : AW l E mi R B Qf (pc + 3) L st h) : AW l E mi R B Qf pc L (.int x :: st) h :=
  ⟨k.1, fun b1 b2 hL p e s m args below meth c H locs ls F hR hS hl => lv_if_gt F.1 F.2.1 hd ht (fun q => absurd q (hc)) (fun _ => (k.2 b1 b2 hL p e s m args below meth c H locs ls F hR hS hl))⟩
theorem ax_icmp_leT {x y : Int32} {off : Int} (tgt : Nat) (hd : decode mi.2.1 pc = .ok (.if_icmp .le off, 3)) (ht : (pc : Int) + off = (tgt : Int)) (hc : ¬ y < x) (k : AW l E mi R B Qf tgt L st h) : AW l E mi R B Qf pc L (.int y :: .int x :: st) h :=
  ⟨k.1, fun b1 b2 hL p e s m args below meth c H locs ls F hR hS hl => lv_icmp_le F.1 F.2.1 hd ht (fun _ => (k.2 b1 b2 hL p e s m args below meth c H locs ls F hR hS hl)) (fun q => absurd (i32_le hc) q)⟩
theorem ax_icmp_leF {x y : Int32} {off : Int} (tgt : Nat) (hd : decode mi.2.1 pc = .ok (.if_icmp .le off, 3)) (ht : (pc : Int) + off = (tgt : Int)) (hc : y < x) (k : AW l E mi R B Qf (pc + 3) L st h) : AW l E mi R B Qf pc L (.int y :: .int x :: st) h :=
  ⟨k.1, fun b1 b2 hL p e s m args below meth c H locs ls F hR hS hl => lv_icmp_le F.1 F.2.1 hd ht (fun q => absurd q (i32_nle hc)) (fun _ => (k.2 b1 b2 hL p e s m args below meth c H locs ls F hR hS hl))⟩
theorem ax_if_leT {x : Int32} {off : Int} (tgt : Nat) (hd : decode mi.2.1 pc = .ok (.ifCond .le off, 3)) (ht : (pc : Int) + off = (tgt : Int)) (hc : ¬ 0 < x) (k : AW l E mi R B Qf tgt L st h) : AW l E mi R B Qf pc L (.int x :: st) h :=
  ⟨k.1, fun b1 b2 hL p e s m args below meth c H locs ls F hR hS hl => lv_if_le F.1 F.2.1 hd ht (fun _ => (k.2 b1 b2 hL p e s m args below meth c H locs ls F hR hS hl)) (fun q => absurd (i32_le hc) q)⟩
theorem ax_if_leF {x : Int32} {off : Int} (tgt : Nat) (hd : decode mi.2.1 pc = .ok (.ifCond .le off, 3)) (ht : (pc : Int) + off = (tgt : Int)) (hc : 0 < x) (k : AW l E mi R B Qf (pc + 3) L st h) : AW l E mi R B Qf pc L (.int x :: st) h :=
  ⟨k.1, fun b1 b2 hL p e s m args below meth c H locs ls F hR hS hl => lv_if_le F.1 F.2.1 hd ht (fun q => absurd q (i32_nle hc)) (fun _ => (k.2 b1 b2 hL p e s m args below meth c H locs ls F hR hS hl))⟩
theorem ax_ifnullT {off : Int} (tgt : Nat) (hd : decode mi.2.1 pc = .ok (.ifnull off, 3)) (ht : (pc : Int) + off = (tgt : Int)) (k : AW l E mi R B Qf tgt L st h) : AW l E mi R B Qf pc L (va_rf none :: st) h :=
  ⟨k.1, fun b1 b2 hL p e s m args below meth c H locs ls F hR hS hl => lv_ifnullN F.1 F.2.1 hd ht (k.2 b1 b2 hL p e s m args below meth c H locs ls F hR hS hl)⟩
theorem ax_ifnullF {off : Int} {a : Nat} (hd : decode mi.2.1 pc = .ok (.ifnull off, 3)) (k : AW l E mi R B Qf (pc + 3) L st h) : AW l E mi R B Qf pc L (va_rf (some a) :: st) h :=
  ⟨k.1, fun b1 b2 hL p e s m args below meth c H locs ls F hR hS hl => lv_ifnull F.1 F.2.1 hd (k.2 b1 b2 hL p e s m args below meth c H locs ls F hR hS hl)⟩
theorem ax_ifnonnullT {off : Int} {a : Nat} (tgt : Nat) (hd : decode mi.2.1 pc = .ok (.ifnonnull off, 3)) (ht : (pc : Int) + off = (tgt : Int)) (k : AW l E mi R B Qf tgt L st h) : AW l E mi R B Qf pc L (va_rf (some a) :: st) h :=
  ⟨k.1, fun b1 b2 hL p e s m args below meth c H locs ls F hR hS hl => lv_ifnonnull F.1 F.2.1 hd ht (k.2 b1 b2 hL p e s m args below meth c H locs ls F hR hS hl)⟩
theorem ax_ifnonnullF {off : Int} (hd : decode mi.2.1 pc = .ok (.ifnonnull off, 3)) (k : AW l E mi R B Qf (pc + 3) L st h) : AW l E mi R B Qf pc L (va_rf none :: st) h :=
  ⟨k.1, fun b1 b2 hL p e s m args below meth c H locs ls F hR hS hl => lv_ifnonnullN F.1 F.2.1 hd (k.2 b1 b2 hL p e s m args below meth c H locs ls F hR hS hl)⟩
/-- two references, each null or to something made: alike here just if alike in the machine -/
def rok (r : Option Nat) : Prop := ∀ a ∈ r, 4 ≤ a
theorem rok_map {E : EN} {r q : Option Nat} (hr : rok r) (hq : rok q) : r.map (ad E) = q.map (ad E) ↔ r = q := by
  cases r with
  | none => cases q <;> simp
  | some a =>
    cases q with
    | none => simp
    | some b =>
      simp only [Option.map_some, Option.some.injEq]
      exact ⟨fun h => ad_inj (hr a rfl) (hq b rfl) h, fun h => by rw [h]⟩
theorem ax_acmp_neT {off : Int} {r q : Option Nat} (tgt : Nat) (hd : decode mi.2.1 pc = .ok (.if_acmp .ne off, 3)) (ht : (pc : Int) + off = (tgt : Int)) (hr : rok r) (hq : rok q) (hc : ¬ r = q) (k : AW l E mi R B Qf tgt L st h) : AW l E mi R B Qf pc L (va_rf q :: va_rf r :: st) h := by
  refine ⟨k.1, fun b1 b2 hL p e s m args below meth c H locs ls F hR hS hl => ?_⟩
  show W p l e R s m args below meth c H locs _ _ _ (F0 m pc ls (vr E (va_rf q) :: vr E (va_rf r) :: st.map (vr E)))
  rw [vr_rf, vr_rf]
  exact lv_acmp_ne F.1 F.2.1 hd ht (fun _ => (k.2 b1 b2 hL p e s m args below meth c H locs ls F hR hS hl)) (fun z => absurd ((rok_map hr hq).mp z) hc)
theorem ax_acmp_neF {off : Int} {r q : Option Nat} (tgt : Nat) (hd : decode mi.2.1 pc = .ok (.if_acmp .ne off, 3)) (ht : (pc : Int) + off = (tgt : Int)) (hr : rok r) (hq : rok q) (hc : r = q) (k : AW l E mi R B Qf (pc + 3) L st h) : AW l E mi R B Qf pc L (va_rf q :: va_rf r :: st) h := by
  refine ⟨k.1, fun b1 b2 hL p e s m args below meth c H locs ls F hR hS hl => ?_⟩
  show W p l e R s m args below meth c H locs _ _ _ (F0 m pc ls (vr E (va_rf q) :: vr E (va_rf r) :: st.map (vr E)))
  rw [vr_rf, vr_rf]
  exact lv_acmp_ne F.1 F.2.1 hd ht (fun z => absurd ((rok_map hr hq).mpr hc) z) (fun _ => (k.2 b1 b2 hL p e s m args below meth c H locs ls F hR hS hl))
theorem ax_tsIn {dflt lo hi : Int} {offs : Array Int} {len : Nat} {x : Int32} {off : Int} (tgt : Nat) (hd : decode mi.2.1 pc = .ok (.tableswitch dflt lo hi offs, len)) (j : Nat) (hx : x.toInt = lo + j) (hj : lo + j ≤ hi) (ho : offs[j]? = some off) (ht : (pc : Int) + off = (tgt : Int)) (k : AW l E mi R B Qf tgt L st h) : AW l E mi R B Qf pc L (.int x :: st) h :=
  ⟨k.1, fun b1 b2 hL p e s m args below meth c H locs ls F hR hS hl => lv_tableIn F.1 F.2.1 hd (by omega) (by omega) (by rw [show (x.toInt - lo).toNat = j by omega]; exact ho) ht (k.2 b1 b2 hL p e s m args below meth c H locs ls F hR hS hl)⟩
theorem ax_tsOut {dflt lo hi : Int} {offs : Array Int} {len : Nat} {x : Int32} (tgt : Nat) (hd : decode mi.2.1 pc = .ok (.tableswitch dflt lo hi offs, len)) (hx : x.toInt < lo ∨ hi < x.toInt) (ht : (pc : Int) + dflt = (tgt : Int)) (k : AW l E mi R B Qf tgt L st h) : AW l E mi R B Qf pc L (.int x :: st) h :=
  ⟨k.1, fun b1 b2 hL p e s m args below meth c H locs ls F hR hS hl => lv_tableOut F.1 F.2.1 hd hx ht (k.2 b1 b2 hL p e s m args below meth c H locs ls F hR hS hl)⟩
theorem ax_lsw {dflt : Int} {ps : Array (Int × Int)} {len : Nat} {x : Int32} {off : Int} (tgt : Nat) (hd : decode mi.2.1 pc = .ok (.lookupswitch dflt ps, len)) (hp : (ps.toList.zip (ps.toList.drop 1)).all (fun (a, next) => a.1 < next.1) = true) (ho : Op.lookupswitch.offset ps.toList dflt x.toInt = off) (ht : (pc : Int) + off = (tgt : Int)) (k : AW l E mi R B Qf tgt L st h) : AW l E mi R B Qf pc L (.int x :: st) h :=
  ⟨k.1, fun b1 b2 hL p e s m args below meth c H locs ls F hR hS hl => lv_lookup F.1 F.2.1 hd hp ho ht (k.2 b1 b2 hL p e s m args below meth c H locs ls F hR hS hl)⟩
theorem ax_ldc {ix : Nat} {v : Int32} (hw : Cond.constant mi.1.cls ix v ∈ zgw) (hd : decode mi.2.1 pc = .ok (.ldc ix, 2)) (k : AW l E mi R B Qf (pc + 2) L (.int v :: st) h) : AW l E mi R B Qf pc L st h :=
  ⟨k.1, fun b1 b2 hL p e s m args below meth c H locs ls F hR hS hl => lv_ldc F.1 F.2.1 F.2.2.2.2.2.1 (F.2.2.2.2.2.2.2.1 _ hw) hd (k.2 b1 b2 hL p e s m args below meth c H locs ls F hR hS hl)⟩
theorem ax_ldcw {ix : Nat} {v : Int32} (hw : Cond.constant mi.1.cls ix v ∈ zgw) (hd : decode mi.2.1 pc = .ok (.ldc_w ix, 3)) (k : AW l E mi R B Qf (pc + 3) L (.int v :: st) h) : AW l E mi R B Qf pc L st h :=
  ⟨k.1, fun b1 b2 hL p e s m args below meth c H locs ls F hR hS hl => lv_ldcw F.1 F.2.1 F.2.2.2.2.2.1 (F.2.2.2.2.2.2.2.1 _ hw) hd (k.2 b1 b2 hL p e s m args below meth c H locs ls F hR hS hl)⟩
theorem ax_ldc2 {ix : Nat} {v : Int64} (hw : Cond.constantLong mi.1.cls ix v ∈ zgw) (hd : decode mi.2.1 pc = .ok (.ldc2_w ix, 3)) (k : AW l E mi R B Qf (pc + 3) L (.long v :: st) h) : AW l E mi R B Qf pc L st h :=
  ⟨k.1, fun b1 b2 hL p e s m args below meth c H locs ls F hR hS hl => lv_ldc2 F.1 F.2.1 F.2.2.2.2.2.1 (F.2.2.2.2.2.2.2.1 _ hw) hd (k.2 b1 b2 hL p e s m args below meth c H locs ls F hR hS hl)⟩
theorem ax_mask (bs : List Bool) (hb : bs.length = L.length) (L' : List (Option Value)) (hL' : List.zipWith (fun (b : Bool) (v : Option Value) => if b then v else none) bs L = L') (k : AW l E mi R B Qf pc L' st h) : AW l E mi R B Qf pc L st h := by
  subst hL'
  exact ⟨k.1, fun b1 b2 hL p e s m args below meth c H locs ls F hR hS hl => k.2 b1 b2 (by rw [List.length_zipWith, hb, Nat.min_self]; exact hL) p e s m args below meth c H locs ls F hR hS (hl.mask bs hb)⟩
end AR
