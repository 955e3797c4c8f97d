/-! NO FUNCTION OF THE CLASS writes the script, nor changes a kind (printed by wip/gen/gen_keep.py) -/
def OKI {α : Type} (Q : α → Prop) (o : Option α) : Prop := ∀ r, o = some r → Q r
def P3 (L : Nat) (xs : Nat → Int32) (h : AH) : Prop := 202 ≤ hM h ∧ hK h 3 = (1, L) ∧ hK h 201 = (112, 0) ∧ ∀ k, hI h 3 k = xs k
section KP
variable {L : Nat} {xs : Nat → Int32} {α β γ : Type} {Q : α → Prop} {h : AH}
theorem OKI.none' : OKI Q (none : Option α) := fun r e => by cases e
theorem OKI.some' {a : α} (q : Q a) : OKI Q (some a) := fun r e => by cases e; exact q
theorem OKI.ite' {c : Prop} [Decidable c] {a b : Option α} (h1 : OKI Q a) (h2 : OKI Q b) : OKI Q (if c then a else b) := by
  by_cases q : c
  · rw [if_pos q]; exact h1
  · rw [if_neg q]; exact h2
theorem OKI.bind0 {o : Option β} {f : β → Option α} (k : ∀ x, OKI Q (f x)) : OKI Q (o.bind f) := by
  cases o with
  | none => exact OKI.none'
  | some x => exact k x
theorem OKI.bindH {P : AH → Prop} {o : Option AH} {f : AH → Option α} (q : OKI P o) (k : ∀ x, P x → OKI Q (f x)) : OKI Q (o.bind f) := by
  cases o with
  | none => exact OKI.none'
  | some x => exact k x (q x rfl)
theorem OKI.bd2' {P : AH → Prop} {o : Option (β × AH)} {f : β → AH → Option α} (q : OKI (fun r => P r.2) o) (k : ∀ v x, P x → OKI Q (f v x)) : OKI Q (bd2 o f) := by
  cases o with
  | none => exact OKI.none'
  | some x => exact k x.1 x.2 (q x rfl)
theorem OKI.cv' {c b : Nat} {o : Option α} (q : OKI Q o) : OKI Q (cv c h b o) := by
  unfold cv
  split
  · exact q
  · exact OKI.none'
theorem OKI.onl' {r : Option Nat} {o : Option α} {f : Nat → Option α} (q : OKI Q o) (k : ∀ a, OKI Q (f a)) : OKI Q (onl r o f) := by
  cases r with
  | none => exact q
  | some x => exact k x
theorem P3.u {h' : AH} (p : P3 L xs h) (m : hM h' = hM h) (k : ∀ a, hK h' a = hK h a) (i : ∀ j, hI h' 3 j = hI h 3 j) : P3 L xs h' := ⟨by rw [m]; exact p.1, by rw [k]; exact p.2.1, by rw [k]; exact p.2.2.1, fun j => by rw [i]; exact p.2.2.2 j⟩
theorem P3.n {q : Nat × Nat} {n : Nat} (p : P3 L xs h) : P3 L xs (uN' h q n) := by
  have := p.1
  refine ⟨by show 202 ≤ hM h + 1; omega, ?_, ?_, fun k => ?_⟩
  · rw [K_old (by omega)]; exact p.2.1
  · rw [K_old (by omega)]; exact p.2.2.1
  · rw [I_old (by omega)]; exact p.2.2.2 k
theorem P3.nO (c : Nat) (p : P3 L xs h) : P3 L xs (nO c h) := P3.n p
theorem P3.no {a c : Nat} (p : P3 L xs h) (z : hK h a = (100 + c, 0)) : ¬ 3 = a := fun e => by
  rw [← e, p.2.1] at z
  have := congrArg Prod.fst z
  simp at this
  omega
theorem P3.uI' {a k : Nat} {v : Int32} (p : P3 L xs h) (ne : ¬ 3 = a) : P3 L xs (uI h a k v) := p.u rfl (fun _ => rfl) (fun j => hI_ne (fun z => ne z.1))
theorem k_pI {c a k : Nat} {v : Int32} (p : P3 L xs h) : OKI (P3 L xs) (pI c h a k v) := by
  unfold pI
  split
  · rename_i z; exact OKI.some' (p.uI' (p.no z))
  · exact OKI.none'
theorem k_pZ {c a k : Nat} {v : Int32} (p : P3 L xs h) : OKI (P3 L xs) (pZ c h a k v) := by
  unfold pZ
  split
  · rename_i z; exact OKI.some' (p.uI' (p.no z.1))
  · exact OKI.none'
theorem k_pJ {c a k : Nat} {v : Int64} (p : P3 L xs h) : OKI (P3 L xs) (pJ c h a k v) := by
  unfold pJ
  split
  · exact OKI.some' (p.u rfl (fun _ => rfl) (fun _ => rfl))
  · exact OKI.none'
theorem k_pR {c a k : Nat} {v : Option Nat} (p : P3 L xs h) : OKI (P3 L xs) (pR c h a k v) := by
  unfold pR
  split
  · exact OKI.some' (p.u rfl (fun _ => rfl) (fun _ => rfl))
  · exact OKI.none'
theorem k_wI {a : Nat} {i v : Int32} (p : P3 L xs h) : OKI (P3 L xs) (wI h a i v) := by
  unfold wI
  split
  · exact OKI.bind0 (fun j => OKI.some' (p.uI' (by omega)))
  · exact OKI.none'
theorem k_wZ {a : Nat} {i v : Int32} (p : P3 L xs h) : OKI (P3 L xs) (wZ h a i v) := by
  unfold wZ
  split
  · exact OKI.bind0 (fun j => OKI.some' (p.uI' (by omega)))
  · exact OKI.none'
theorem k_wJ {a : Nat} {i : Int32} {v : Int64} (p : P3 L xs h) : OKI (P3 L xs) (wJ h a i v) := by
  unfold wJ
  split
  · exact OKI.bind0 (fun j => OKI.some' (p.u rfl (fun _ => rfl) (fun _ => rfl)))
  · exact OKI.none'
theorem k_wR {c a : Nat} {i : Int32} {v : Option Nat} (p : P3 L xs h) : OKI (P3 L xs) (wR c h a i v) := by
  unfold wR
  split
  · exact OKI.bind0 (fun j => OKI.some' (p.u rfl (fun _ => rfl) (fun _ => rfl)))
  · exact OKI.none'
theorem k_cpI {a b : Nat} {i j n : Int32} (p : P3 L xs h) : OKI (P3 L xs) (cpI h a i b j n) := by
  unfold cpI
  split
  · rename_i z
    exact OKI.some' (p.u rfl (fun _ => rfl) (fun k => if_neg (by have := z.2.2.2.1; omega)))
  · exact OKI.none'
theorem k_cpJ {a b : Nat} {i j n : Int32} (p : P3 L xs h) : OKI (P3 L xs) (cpJ h a i b j n) := by
  unfold cpJ
  split
  · exact OKI.some' (p.u rfl (fun _ => rfl) (fun _ => rfl))
  · exact OKI.none'
theorem k_nAr {d : Nat} {n : Int32} (p : P3 L xs h) : OKI (P3 L xs) (nAr d h n) := by
  unfold nAr
  split
  · exact OKI.some' p.n
  · exact OKI.none'
end KP
theorem k_jA_fill_J_L6 {L : Nat} {xs : Nat → Int32} {y0 : Nat} {y1 : Int64} {y4 : Int32}  : ∀ (n : Nat) (z1 : Int32) (z2 : AH), P3 L xs z2 → OKI (P3 L xs) (f_jA_fill_J_L6 y0 y1 y4 n z1 z2) := by
  intro n
  induction n with
  | zero => intro z1 z2 hp0; exact OKI.none'
  | succ n ih =>
    intro z1 z2 hp0
    rw [f_jA_fill_J_L6]
    repeat' (first | assumption | (with_reducible exact OKI.none') | (with_reducible refine OKI.bd2' (P := P3 L xs) ?_ (fun _ _ _ => ?_)) | (with_reducible refine OKI.bindH (P := P3 L xs) ?_ (fun _ _ => ?_)) | (with_reducible refine OKI.bind0 (fun _ => ?_)) | (with_reducible refine OKI.ite' ?_ ?_) | (with_reducible refine OKI.cv' ?_) | (with_reducible refine OKI.onl' ?_ (fun _ => ?_)) | (with_reducible refine OKI.some' ?_) | (with_reducible refine ih _ _ ?_) | (with_reducible refine k_wJ ?_) | exact P3.nO _ (by assumption))
theorem k_jA_fill_J {L : Nat} {xs : Nat → Int32} {h0 : AH} {p1 : Option Nat} {p2 : Int64} (hp_h0 : P3 L xs h0) : OKI (P3 L xs) (f_jA_fill_J h0 p1 p2) := by
  unfold f_jA_fill_J
  repeat' (first | assumption | (with_reducible exact OKI.none') | (with_reducible refine OKI.bd2' (P := P3 L xs) ?_ (fun _ _ _ => ?_)) | (with_reducible refine OKI.bindH (P := P3 L xs) ?_ (fun _ _ => ?_)) | (with_reducible refine OKI.bind0 (fun _ => ?_)) | (with_reducible refine OKI.ite' ?_ ?_) | (with_reducible refine OKI.cv' ?_) | (with_reducible refine OKI.onl' ?_ (fun _ => ?_)) | (with_reducible refine OKI.some' ?_) | (with_reducible refine k_jA_fill_J_L6 (L := L) (xs := xs) _ _ _ ?_) | exact P3.nO _ (by assumption))
theorem k_Wo_becomeOnly {L : Nat} {xs : Nat → Int32} {h0 : AH} {o : Nat} {p1 : Int32} (hp_h0 : P3 L xs h0) : OKI (P3 L xs) (f_Wo_becomeOnly h0 o p1) := by
  unfold f_Wo_becomeOnly
  repeat' (first | assumption | (with_reducible exact OKI.none') | (with_reducible refine OKI.bd2' (P := P3 L xs) ?_ (fun _ _ _ => ?_)) | (with_reducible refine OKI.bindH (P := P3 L xs) ?_ (fun _ _ => ?_)) | (with_reducible refine OKI.bind0 (fun _ => ?_)) | (with_reducible refine OKI.ite' ?_ ?_) | (with_reducible refine OKI.cv' ?_) | (with_reducible refine OKI.onl' ?_ (fun _ => ?_)) | (with_reducible refine OKI.some' ?_) | (with_reducible refine k_jA_fill_J (L := L) (xs := xs) ?_) | (with_reducible refine k_wJ ?_) | exact P3.nO _ (by assumption))
theorem k_Lo_startWith {L : Nat} {xs : Nat → Int32} {h0 : AH} {o : Nat} {p1 : Int32} (hp_h0 : P3 L xs h0) : OKI (P3 L xs) (f_Lo_startWith h0 o p1) := by
  unfold f_Lo_startWith
  repeat' (first | assumption | (with_reducible exact OKI.none') | (with_reducible refine OKI.bd2' (P := P3 L xs) ?_ (fun _ _ _ => ?_)) | (with_reducible refine OKI.bindH (P := P3 L xs) ?_ (fun _ _ => ?_)) | (with_reducible refine OKI.bind0 (fun _ => ?_)) | (with_reducible refine OKI.ite' ?_ ?_) | (with_reducible refine OKI.cv' ?_) | (with_reducible refine OKI.onl' ?_ (fun _ => ?_)) | (with_reducible refine OKI.some' ?_) | (with_reducible refine k_Wo_becomeOnly (L := L) (xs := xs) ?_) | (with_reducible refine k_pI ?_) | exact P3.nO _ (by assumption))
theorem k_Pa_write_L3 {L : Nat} {xs : Nat → Int32} {y0 : Nat} {y1 : Int64} {y3 : Int32}  : ∀ (n : Nat) (z1 : Int32) (z2 : AH), P3 L xs z2 → OKI (P3 L xs) (f_Pa_write_L3 y0 y1 y3 n z1 z2) := by
  intro n
  induction n with
  | zero => intro z1 z2 hp0; exact OKI.none'
  | succ n ih =>
    intro z1 z2 hp0
    rw [f_Pa_write_L3]
    repeat' (first | assumption | (with_reducible exact OKI.none') | (with_reducible refine OKI.bd2' (P := P3 L xs) ?_ (fun _ _ _ => ?_)) | (with_reducible refine OKI.bindH (P := P3 L xs) ?_ (fun _ _ => ?_)) | (with_reducible refine OKI.bind0 (fun _ => ?_)) | (with_reducible refine OKI.ite' ?_ ?_) | (with_reducible refine OKI.cv' ?_) | (with_reducible refine OKI.onl' ?_ (fun _ => ?_)) | (with_reducible refine OKI.some' ?_) | (with_reducible refine ih _ _ ?_) | (with_reducible refine k_pI ?_) | (with_reducible refine k_wI ?_) | exact P3.nO _ (by assumption))
theorem k_Pa_write {L : Nat} {xs : Nat → Int32} {h0 : AH} {o : Nat} {p1 : Int64} {p2 : Int32} (hp_h0 : P3 L xs h0) : OKI (P3 L xs) (f_Pa_write h0 o p1 p2) := by
  unfold f_Pa_write
  repeat' (first | assumption | (with_reducible exact OKI.none') | (with_reducible refine OKI.bd2' (P := P3 L xs) ?_ (fun _ _ _ => ?_)) | (with_reducible refine OKI.bindH (P := P3 L xs) ?_ (fun _ _ => ?_)) | (with_reducible refine OKI.bind0 (fun _ => ?_)) | (with_reducible refine OKI.ite' ?_ ?_) | (with_reducible refine OKI.cv' ?_) | (with_reducible refine OKI.onl' ?_ (fun _ => ?_)) | (with_reducible refine OKI.some' ?_) | (with_reducible refine k_Pa_write_L3 (L := L) (xs := xs) _ _ _ ?_) | exact P3.nO _ (by assumption))
theorem k_C_letters {L : Nat} {xs : Nat → Int32} {h0 : AH} {o : Nat} {p1 : Int64} (hp_h0 : P3 L xs h0) : OKI (fun r => P3 L xs r.2) (f_C_letters h0 o p1) := by
  unfold f_C_letters
  repeat' (first | assumption | (with_reducible exact OKI.none') | (with_reducible refine OKI.bd2' (P := P3 L xs) ?_ (fun _ _ _ => ?_)) | (with_reducible refine OKI.bindH (P := P3 L xs) ?_ (fun _ _ => ?_)) | (with_reducible refine OKI.bind0 (fun _ => ?_)) | (with_reducible refine OKI.ite' ?_ ?_) | (with_reducible refine OKI.cv' ?_) | (with_reducible refine OKI.onl' ?_ (fun _ => ?_)) | (with_reducible refine OKI.some' ?_) | (with_reducible refine k_Pa_write (L := L) (xs := xs) ?_) | exact P3.nO _ (by assumption))
theorem k_C_blank {L : Nat} {xs : Nat → Int32} {h0 : AH} {o : Nat} (hp_h0 : P3 L xs h0) : OKI (fun r => P3 L xs r.2) (f_C_blank h0 o) := by
  unfold f_C_blank
  repeat' (first | assumption | (with_reducible exact OKI.none') | (with_reducible refine OKI.bd2' (P := P3 L xs) ?_ (fun _ _ _ => ?_)) | (with_reducible refine OKI.bindH (P := P3 L xs) ?_ (fun _ _ => ?_)) | (with_reducible refine OKI.bind0 (fun _ => ?_)) | (with_reducible refine OKI.ite' ?_ ?_) | (with_reducible refine OKI.cv' ?_) | (with_reducible refine OKI.onl' ?_ (fun _ => ?_)) | (with_reducible refine OKI.some' ?_) | (with_reducible refine k_pI ?_) | exact P3.nO _ (by assumption))
theorem k_Le_startTalk {L : Nat} {xs : Nat → Int32} {h0 : AH} {o : Nat} (hp_h0 : P3 L xs h0) : OKI (P3 L xs) (f_Le_startTalk h0 o) := by
  unfold f_Le_startTalk
  repeat' (first | assumption | (with_reducible exact OKI.none') | (with_reducible refine OKI.bd2' (P := P3 L xs) ?_ (fun _ _ _ => ?_)) | (with_reducible refine OKI.bindH (P := P3 L xs) ?_ (fun _ _ => ?_)) | (with_reducible refine OKI.bind0 (fun _ => ?_)) | (with_reducible refine OKI.ite' ?_ ?_) | (with_reducible refine OKI.cv' ?_) | (with_reducible refine OKI.onl' ?_ (fun _ => ?_)) | (with_reducible refine OKI.some' ?_) | (with_reducible refine k_pZ ?_) | (with_reducible refine k_pJ ?_) | exact P3.nO _ (by assumption))
theorem k_Le_open {L : Nat} {xs : Nat → Int32} {h0 : AH} {o : Nat} {p1 : Int32} (hp_h0 : P3 L xs h0) : OKI (P3 L xs) (f_Le_open h0 o p1) := by
  unfold f_Le_open
  repeat' (first | assumption | (with_reducible exact OKI.none') | (with_reducible refine OKI.bd2' (P := P3 L xs) ?_ (fun _ _ _ => ?_)) | (with_reducible refine OKI.bindH (P := P3 L xs) ?_ (fun _ _ => ?_)) | (with_reducible refine OKI.bind0 (fun _ => ?_)) | (with_reducible refine OKI.ite' ?_ ?_) | (with_reducible refine OKI.cv' ?_) | (with_reducible refine OKI.onl' ?_ (fun _ => ?_)) | (with_reducible refine OKI.some' ?_) | (with_reducible refine k_Le_startTalk (L := L) (xs := xs) ?_) | (with_reducible refine k_pI ?_) | (with_reducible refine k_pZ ?_) | (with_reducible refine k_pJ ?_) | exact P3.nO _ (by assumption))
theorem k_Pa_link_L3 {L : Nat} {xs : Nat → Int32} {y0 : Nat} {y1 : Int64} {y3 : Int64}  : ∀ (n : Nat) (z1 : Int32) (z2 : AH), P3 L xs z2 → OKI (P3 L xs) (f_Pa_link_L3 y0 y1 y3 n z1 z2) := by
  intro n
  induction n with
  | zero => intro z1 z2 hp0; exact OKI.none'
  | succ n ih =>
    intro z1 z2 hp0
    rw [f_Pa_link_L3]
    repeat' (first | assumption | (with_reducible exact OKI.none') | (with_reducible refine OKI.bd2' (P := P3 L xs) ?_ (fun _ _ _ => ?_)) | (with_reducible refine OKI.bindH (P := P3 L xs) ?_ (fun _ _ => ?_)) | (with_reducible refine OKI.bind0 (fun _ => ?_)) | (with_reducible refine OKI.ite' ?_ ?_) | (with_reducible refine OKI.cv' ?_) | (with_reducible refine OKI.onl' ?_ (fun _ => ?_)) | (with_reducible refine OKI.some' ?_) | (with_reducible refine ih _ _ ?_) | (with_reducible refine k_wJ ?_) | exact P3.nO _ (by assumption))
theorem k_Pa_link {L : Nat} {xs : Nat → Int32} {h0 : AH} {o : Nat} {p1 : Int64} {p2 : Int64} (hp_h0 : P3 L xs h0) : OKI (P3 L xs) (f_Pa_link h0 o p1 p2) := by
  unfold f_Pa_link
  repeat' (first | assumption | (with_reducible exact OKI.none') | (with_reducible refine OKI.bd2' (P := P3 L xs) ?_ (fun _ _ _ => ?_)) | (with_reducible refine OKI.bindH (P := P3 L xs) ?_ (fun _ _ => ?_)) | (with_reducible refine OKI.bind0 (fun _ => ?_)) | (with_reducible refine OKI.ite' ?_ ?_) | (with_reducible refine OKI.cv' ?_) | (with_reducible refine OKI.onl' ?_ (fun _ => ?_)) | (with_reducible refine OKI.some' ?_) | (with_reducible refine k_Pa_link_L3 (L := L) (xs := xs) _ _ _ ?_) | exact P3.nO _ (by assumption))
theorem k_Pa_append {L : Nat} {xs : Nat → Int32} {h0 : AH} {o : Nat} {p1 : Int64} {p2 : Int64} {p3 : Int32} (hp_h0 : P3 L xs h0) : OKI (P3 L xs) (f_Pa_append h0 o p1 p2 p3) := by
  unfold f_Pa_append
  repeat' (first | assumption | (with_reducible exact OKI.none') | (with_reducible refine OKI.bd2' (P := P3 L xs) ?_ (fun _ _ _ => ?_)) | (with_reducible refine OKI.bindH (P := P3 L xs) ?_ (fun _ _ => ?_)) | (with_reducible refine OKI.bind0 (fun _ => ?_)) | (with_reducible refine OKI.ite' ?_ ?_) | (with_reducible refine OKI.cv' ?_) | (with_reducible refine OKI.onl' ?_ (fun _ => ?_)) | (with_reducible refine OKI.some' ?_) | (with_reducible refine k_Pa_link (L := L) (xs := xs) ?_) | (with_reducible refine k_pZ ?_) | (with_reducible refine k_pJ ?_) | exact P3.nO _ (by assumption))
theorem k_Pa_acceptsMessage {L : Nat} {xs : Nat → Int32} {h0 : AH} {o : Nat} {p1 : Int32} (hp_h0 : P3 L xs h0) : OKI (fun r => P3 L xs r.2) (f_Pa_acceptsMessage h0 o p1) := by
  unfold f_Pa_acceptsMessage
  repeat' (first | assumption | (with_reducible exact OKI.none') | (with_reducible refine OKI.bd2' (P := P3 L xs) ?_ (fun _ _ _ => ?_)) | (with_reducible refine OKI.bindH (P := P3 L xs) ?_ (fun _ _ => ?_)) | (with_reducible refine OKI.bind0 (fun _ => ?_)) | (with_reducible refine OKI.ite' ?_ ?_) | (with_reducible refine OKI.cv' ?_) | (with_reducible refine OKI.onl' ?_ (fun _ => ?_)) | (with_reducible refine OKI.some' ?_) | (with_reducible refine k_Pa_append (L := L) (xs := xs) ?_) | (with_reducible refine k_pI ?_) | (with_reducible refine k_wI ?_) | (with_reducible refine k_wJ ?_) | exact P3.nO _ (by assumption))
theorem k_Pa_opens {L : Nat} {xs : Nat → Int32} {h0 : AH} {o : Nat} {p1 : Int32} (hp_h0 : P3 L xs h0) : OKI (fun r => P3 L xs r.2) (f_Pa_opens h0 o p1) := by
  unfold f_Pa_opens
  repeat' (first | assumption | (with_reducible exact OKI.none') | (with_reducible refine OKI.bd2' (P := P3 L xs) ?_ (fun _ _ _ => ?_)) | (with_reducible refine OKI.bindH (P := P3 L xs) ?_ (fun _ _ => ?_)) | (with_reducible refine OKI.bind0 (fun _ => ?_)) | (with_reducible refine OKI.ite' ?_ ?_) | (with_reducible refine OKI.cv' ?_) | (with_reducible refine OKI.onl' ?_ (fun _ => ?_)) | (with_reducible refine OKI.some' ?_) | (with_reducible refine k_Le_open (L := L) (xs := xs) ?_) | (with_reducible refine k_pI ?_) | exact P3.nO _ (by assumption))
theorem k_Le_endBranch {L : Nat} {xs : Nat → Int32} {h0 : AH} {o : Nat} (hp_h0 : P3 L xs h0) : OKI (P3 L xs) (f_Le_endBranch h0 o) := by
  unfold f_Le_endBranch
  repeat' (first | assumption | (with_reducible exact OKI.none') | (with_reducible refine OKI.bd2' (P := P3 L xs) ?_ (fun _ _ _ => ?_)) | (with_reducible refine OKI.bindH (P := P3 L xs) ?_ (fun _ _ => ?_)) | (with_reducible refine OKI.bind0 (fun _ => ?_)) | (with_reducible refine OKI.ite' ?_ ?_) | (with_reducible refine OKI.cv' ?_) | (with_reducible refine OKI.onl' ?_ (fun _ => ?_)) | (with_reducible refine OKI.some' ?_) | (with_reducible refine k_Le_startTalk (L := L) (xs := xs) ?_) | (with_reducible refine k_pZ ?_) | (with_reducible refine k_pJ ?_) | exact P3.nO _ (by assumption))
theorem k_Pa_bars {L : Nat} {xs : Nat → Int32} {h0 : AH} {o : Nat} (hp_h0 : P3 L xs h0) : OKI (fun r => P3 L xs r.2) (f_Pa_bars h0 o) := by
  unfold f_Pa_bars
  repeat' (first | assumption | (with_reducible exact OKI.none') | (with_reducible refine OKI.bd2' (P := P3 L xs) ?_ (fun _ _ _ => ?_)) | (with_reducible refine OKI.bindH (P := P3 L xs) ?_ (fun _ _ => ?_)) | (with_reducible refine OKI.bind0 (fun _ => ?_)) | (with_reducible refine OKI.ite' ?_ ?_) | (with_reducible refine OKI.cv' ?_) | (with_reducible refine OKI.onl' ?_ (fun _ => ?_)) | (with_reducible refine OKI.some' ?_) | (with_reducible refine k_Le_endBranch (L := L) (xs := xs) ?_) | (with_reducible refine k_pZ ?_) | exact P3.nO _ (by assumption))
theorem k_Pa_closes {L : Nat} {xs : Nat → Int32} {h0 : AH} {o : Nat} {p1 : Int32} (hp_h0 : P3 L xs h0) : OKI (fun r => P3 L xs r.2) (f_Pa_closes h0 o p1) := by
  unfold f_Pa_closes
  repeat' (first | assumption | (with_reducible exact OKI.none') | (with_reducible refine OKI.bd2' (P := P3 L xs) ?_ (fun _ _ _ => ?_)) | (with_reducible refine OKI.bindH (P := P3 L xs) ?_ (fun _ _ => ?_)) | (with_reducible refine OKI.bind0 (fun _ => ?_)) | (with_reducible refine OKI.ite' ?_ ?_) | (with_reducible refine OKI.cv' ?_) | (with_reducible refine OKI.onl' ?_ (fun _ => ?_)) | (with_reducible refine OKI.some' ?_) | (with_reducible refine k_Pa_link (L := L) (xs := xs) ?_) | (with_reducible refine k_Pa_append (L := L) (xs := xs) ?_) | (with_reducible refine k_Le_endBranch (L := L) (xs := xs) ?_) | (with_reducible refine k_pI ?_) | exact P3.nO _ (by assumption))
theorem k_Pa_accepts {L : Nat} {xs : Nat → Int32} {h0 : AH} {o : Nat} {p1 : Int32} (hp_h0 : P3 L xs h0) : OKI (fun r => P3 L xs r.2) (f_Pa_accepts h0 o p1) := by
  unfold f_Pa_accepts
  repeat' (first | assumption | (with_reducible exact OKI.none') | (with_reducible refine OKI.bd2' (P := P3 L xs) ?_ (fun _ _ _ => ?_)) | (with_reducible refine OKI.bindH (P := P3 L xs) ?_ (fun _ _ => ?_)) | (with_reducible refine OKI.bind0 (fun _ => ?_)) | (with_reducible refine OKI.ite' ?_ ?_) | (with_reducible refine OKI.cv' ?_) | (with_reducible refine OKI.onl' ?_ (fun _ => ?_)) | (with_reducible refine OKI.some' ?_) | (with_reducible refine k_Pa_opens (L := L) (xs := xs) ?_) | (with_reducible refine k_Pa_closes (L := L) (xs := xs) ?_) | (with_reducible refine k_Pa_append (L := L) (xs := xs) ?_) | (with_reducible refine k_Pa_bars (L := L) (xs := xs) ?_) | (with_reducible refine k_Pa_acceptsMessage (L := L) (xs := xs) ?_) | (with_reducible refine k_pI ?_) | exact P3.nO _ (by assumption))
theorem k_Pa_read_L27 {L : Nat} {xs : Nat → Int32} {y0 : Nat}  : ∀ (n : Nat) (z1 : Int32) (z2 : AH), P3 L xs z2 → OKI (fun r => P3 L xs r.2) (f_Pa_read_L27 y0 n z1 z2) := by
  intro n
  induction n with
  | zero => intro z1 z2 hp0; exact OKI.none'
  | succ n ih =>
    intro z1 z2 hp0
    rw [f_Pa_read_L27]
    repeat' (first | assumption | (with_reducible exact OKI.none') | (with_reducible refine OKI.bd2' (P := P3 L xs) ?_ (fun _ _ _ => ?_)) | (with_reducible refine OKI.bindH (P := P3 L xs) ?_ (fun _ _ => ?_)) | (with_reducible refine OKI.bind0 (fun _ => ?_)) | (with_reducible refine OKI.ite' ?_ ?_) | (with_reducible refine OKI.cv' ?_) | (with_reducible refine OKI.onl' ?_ (fun _ => ?_)) | (with_reducible refine OKI.some' ?_) | (with_reducible refine ih _ _ ?_) | (with_reducible refine k_Pa_accepts (L := L) (xs := xs) ?_) | exact P3.nO _ (by assumption))
theorem k_Pa_read {L : Nat} {xs : Nat → Int32} {h0 : AH} {o : Nat} (hp_h0 : P3 L xs h0) : OKI (fun r => P3 L xs r.2) (f_Pa_read h0 o) := by
  unfold f_Pa_read
  repeat' (first | assumption | (with_reducible exact OKI.none') | (with_reducible refine OKI.bd2' (P := P3 L xs) ?_ (fun _ _ _ => ?_)) | (with_reducible refine OKI.bindH (P := P3 L xs) ?_ (fun _ _ => ?_)) | (with_reducible refine OKI.bind0 (fun _ => ?_)) | (with_reducible refine OKI.ite' ?_ ?_) | (with_reducible refine OKI.cv' ?_) | (with_reducible refine OKI.onl' ?_ (fun _ => ?_)) | (with_reducible refine OKI.some' ?_) | (with_reducible refine k_Le_open (L := L) (xs := xs) ?_) | (with_reducible refine k_Pa_read_L27 (L := L) (xs := xs) _ _ _ ?_) | (with_reducible refine k_pI ?_) | exact P3.nO _ (by assumption))
theorem k_C_good {L : Nat} {xs : Nat → Int32} {h0 : AH} {o : Nat} (hp_h0 : P3 L xs h0) : OKI (fun r => P3 L xs r.2) (f_C_good h0 o) := by
  unfold f_C_good
  repeat' (first | assumption | (with_reducible exact OKI.none') | (with_reducible refine OKI.bd2' (P := P3 L xs) ?_ (fun _ _ _ => ?_)) | (with_reducible refine OKI.bindH (P := P3 L xs) ?_ (fun _ _ => ?_)) | (with_reducible refine OKI.bind0 (fun _ => ?_)) | (with_reducible refine OKI.ite' ?_ ?_) | (with_reducible refine OKI.cv' ?_) | (with_reducible refine OKI.onl' ?_ (fun _ => ?_)) | (with_reducible refine OKI.some' ?_) | (with_reducible refine k_Pa_read (L := L) (xs := xs) ?_) | exact P3.nO _ (by assumption))
theorem k_jA_fill_I_L5 {L : Nat} {xs : Nat → Int32} {y0 : Nat} {y1 : Int32} {y3 : Int32}  : ∀ (n : Nat) (z1 : Int32) (z2 : AH), P3 L xs z2 → OKI (P3 L xs) (f_jA_fill_I_L5 y0 y1 y3 n z1 z2) := by
  intro n
  induction n with
  | zero => intro z1 z2 hp0; exact OKI.none'
  | succ n ih =>
    intro z1 z2 hp0
    rw [f_jA_fill_I_L5]
    repeat' (first | assumption | (with_reducible exact OKI.none') | (with_reducible refine OKI.bd2' (P := P3 L xs) ?_ (fun _ _ _ => ?_)) | (with_reducible refine OKI.bindH (P := P3 L xs) ?_ (fun _ _ => ?_)) | (with_reducible refine OKI.bind0 (fun _ => ?_)) | (with_reducible refine OKI.ite' ?_ ?_) | (with_reducible refine OKI.cv' ?_) | (with_reducible refine OKI.onl' ?_ (fun _ => ?_)) | (with_reducible refine OKI.some' ?_) | (with_reducible refine ih _ _ ?_) | (with_reducible refine k_wI ?_) | exact P3.nO _ (by assumption))
theorem k_jA_fill_I {L : Nat} {xs : Nat → Int32} {h0 : AH} {p1 : Option Nat} {p2 : Int32} (hp_h0 : P3 L xs h0) : OKI (P3 L xs) (f_jA_fill_I h0 p1 p2) := by
  unfold f_jA_fill_I
  repeat' (first | assumption | (with_reducible exact OKI.none') | (with_reducible refine OKI.bd2' (P := P3 L xs) ?_ (fun _ _ _ => ?_)) | (with_reducible refine OKI.bindH (P := P3 L xs) ?_ (fun _ _ => ?_)) | (with_reducible refine OKI.bind0 (fun _ => ?_)) | (with_reducible refine OKI.ite' ?_ ?_) | (with_reducible refine OKI.cv' ?_) | (with_reducible refine OKI.onl' ?_ (fun _ => ?_)) | (with_reducible refine OKI.some' ?_) | (with_reducible refine k_jA_fill_I_L5 (L := L) (xs := xs) _ _ _ ?_) | exact P3.nO _ (by assumption))
theorem k_Ta_addStep {L : Nat} {xs : Nat → Int32} {h0 : AH} {o : Nat} {p1 : Int32} {p2 : Int32} {p3 : Int32} (hp_h0 : P3 L xs h0) : OKI (P3 L xs) (f_Ta_addStep h0 o p1 p2 p3) := by
  unfold f_Ta_addStep
  repeat' (first | assumption | (with_reducible exact OKI.none') | (with_reducible refine OKI.bd2' (P := P3 L xs) ?_ (fun _ _ _ => ?_)) | (with_reducible refine OKI.bindH (P := P3 L xs) ?_ (fun _ _ => ?_)) | (with_reducible refine OKI.bind0 (fun _ => ?_)) | (with_reducible refine OKI.ite' ?_ ?_) | (with_reducible refine OKI.cv' ?_) | (with_reducible refine OKI.onl' ?_ (fun _ => ?_)) | (with_reducible refine OKI.some' ?_) | (with_reducible refine k_wI ?_) | exact P3.nO _ (by assumption))
theorem k_Ta_init_L111 {L : Nat} {xs : Nat → Int32} {ρ : Type} {Q : ρ → Prop} {y0 : Nat} {y1 : Nat} {y2 : Int32} {y3 : Int64} {k : AH → Option (ρ)} (h_k : ∀ (a0 : AH), P3 L xs a0 → OKI (Q) (k a0)) : ∀ (n : Nat) (z1 : Int32) (z2 : AH), P3 L xs z2 → OKI (Q) (f_Ta_init_L111 y0 y1 y2 y3 k n z1 z2) := by
  intro n
  induction n with
  | zero => intro z1 z2 hp0; exact OKI.none'
  | succ n ih =>
    intro z1 z2 hp0
    rw [f_Ta_init_L111]
    repeat' (first | assumption | (with_reducible exact OKI.none') | (with_reducible refine OKI.bd2' (P := P3 L xs) ?_ (fun _ _ _ => ?_)) | (with_reducible refine OKI.bindH (P := P3 L xs) ?_ (fun _ _ => ?_)) | (with_reducible refine OKI.bind0 (fun _ => ?_)) | (with_reducible refine OKI.ite' ?_ ?_) | (with_reducible refine OKI.cv' ?_) | (with_reducible refine OKI.onl' ?_ (fun _ => ?_)) | (with_reducible refine OKI.some' ?_) | (with_reducible refine ih _ _ ?_) | (with_reducible refine h_k _ ?_) | (with_reducible refine k_Ta_addStep (L := L) (xs := xs) ?_) | exact P3.nO _ (by assumption))
theorem k_Ta_init_L70 {L : Nat} {xs : Nat → Int32} {y0 : Nat} {y1 : Nat}  : ∀ (n : Nat) (z1 : Int32) (z2 : AH), P3 L xs z2 → OKI (P3 L xs) (f_Ta_init_L70 y0 y1 n z1 z2) := by
  intro n
  induction n with
  | zero => intro z1 z2 hp0; exact OKI.none'
  | succ n ih =>
    intro z1 z2 hp0
    rw [f_Ta_init_L70]
    repeat' (first | assumption | (with_reducible exact OKI.none') | (with_reducible refine OKI.bd2' (P := P3 L xs) ?_ (fun _ _ _ => ?_)) | (with_reducible refine OKI.bindH (P := P3 L xs) ?_ (fun _ _ => ?_)) | (with_reducible refine OKI.bind0 (fun _ => ?_)) | (with_reducible refine OKI.ite' ?_ ?_) | (with_reducible refine OKI.cv' ?_) | (with_reducible refine OKI.onl' ?_ (fun _ => ?_)) | (with_reducible refine OKI.some' ?_) | (with_reducible refine ih _ _ ?_) | (with_reducible refine k_Ta_init_L111 (L := L) (xs := xs) (fun _ _ => ?_) _ _ _ ?_) | (with_reducible refine k_pI ?_) | exact P3.nO _ (by assumption))
theorem k_Ta_init {L : Nat} {xs : Nat → Int32} {h0 : AH} {o : Nat} {p1 : Option Nat} (hp_h0 : P3 L xs h0) : OKI (P3 L xs) (f_Ta_init h0 o p1) := by
  unfold f_Ta_init
  repeat' (first | assumption | (with_reducible exact OKI.none') | (with_reducible refine OKI.bd2' (P := P3 L xs) ?_ (fun _ _ _ => ?_)) | (with_reducible refine OKI.bindH (P := P3 L xs) ?_ (fun _ _ => ?_)) | (with_reducible refine OKI.bind0 (fun _ => ?_)) | (with_reducible refine OKI.ite' ?_ ?_) | (with_reducible refine OKI.cv' ?_) | (with_reducible refine OKI.onl' ?_ (fun _ => ?_)) | (with_reducible refine OKI.some' ?_) | (with_reducible refine k_jA_fill_I (L := L) (xs := xs) ?_) | (with_reducible refine k_Ta_init_L70 (L := L) (xs := xs) _ _ _ ?_) | (with_reducible refine k_pI ?_) | (with_reducible refine k_pR ?_) | (with_reducible refine k_nAr ?_) | exact P3.nO _ (by assumption))
theorem k_C_talk {L : Nat} {xs : Nat → Int32} {h0 : AH} {o : Nat} (hp_h0 : P3 L xs h0) : OKI (fun r => P3 L xs r.2) (f_C_talk h0 o) := by
  unfold f_C_talk
  repeat' (first | assumption | (with_reducible exact OKI.none') | (with_reducible refine OKI.bd2' (P := P3 L xs) ?_ (fun _ _ _ => ?_)) | (with_reducible refine OKI.bindH (P := P3 L xs) ?_ (fun _ _ => ?_)) | (with_reducible refine OKI.bind0 (fun _ => ?_)) | (with_reducible refine OKI.ite' ?_ ?_) | (with_reducible refine OKI.cv' ?_) | (with_reducible refine OKI.onl' ?_ (fun _ => ?_)) | (with_reducible refine OKI.some' ?_) | (with_reducible refine k_Pa_read (L := L) (xs := xs) ?_) | (with_reducible refine k_Ta_init (L := L) (xs := xs) ?_) | (with_reducible refine k_pI ?_) | (with_reducible refine k_wR ?_) | exact P3.nO _ (by assumption))
theorem k_Wa_reach_L12 {L : Nat} {xs : Nat → Int32} {h0 : AH} {y0 : Nat} {y1 : Int32} {y2 : Int32} {y3 : Int32} {k : Int32 → Option (AH)} (h_k : ∀ (a0 : Int32), OKI (P3 L xs) (k a0)) (hp_h0 : P3 L xs h0) : ∀ (n : Nat) (z1 : Int32) (z2 : Int32), OKI (P3 L xs) (f_Wa_reach_L12 h0 y0 y1 y2 y3 k n z1 z2) := by
  intro n
  induction n with
  | zero => intro z1 z2; exact OKI.none'
  | succ n ih =>
    intro z1 z2
    rw [f_Wa_reach_L12]
    repeat' (first | assumption | (with_reducible exact OKI.none') | (with_reducible refine OKI.bd2' (P := P3 L xs) ?_ (fun _ _ _ => ?_)) | (with_reducible refine OKI.bindH (P := P3 L xs) ?_ (fun _ _ => ?_)) | (with_reducible refine OKI.bind0 (fun _ => ?_)) | (with_reducible refine OKI.ite' ?_ ?_) | (with_reducible refine OKI.cv' ?_) | (with_reducible refine OKI.onl' ?_ (fun _ => ?_)) | (with_reducible refine OKI.some' ?_) | (with_reducible refine ih _ _ ) | (with_reducible refine h_k _ ) | exact P3.nO _ (by assumption))
theorem k_Wa_reach {L : Nat} {xs : Nat → Int32} {h0 : AH} {o : Nat} {p1 : Int32} {p2 : Int32} {p3 : Int32} (hp_h0 : P3 L xs h0) : OKI (P3 L xs) (f_Wa_reach h0 o p1 p2 p3) := by
  unfold f_Wa_reach
  repeat' (first | assumption | (with_reducible exact OKI.none') | (with_reducible refine OKI.bd2' (P := P3 L xs) ?_ (fun _ _ _ => ?_)) | (with_reducible refine OKI.bindH (P := P3 L xs) ?_ (fun _ _ => ?_)) | (with_reducible refine OKI.bind0 (fun _ => ?_)) | (with_reducible refine OKI.ite' ?_ ?_) | (with_reducible refine OKI.cv' ?_) | (with_reducible refine OKI.onl' ?_ (fun _ => ?_)) | (with_reducible refine OKI.some' ?_) | (with_reducible refine k_Wa_reach_L12 (L := L) (xs := xs) (fun _ => ?_) ?_ _ _ _) | (with_reducible refine k_pI ?_) | (with_reducible refine k_pZ ?_) | (with_reducible refine k_wI ?_) | exact P3.nO _ (by assumption))
theorem k_Wa_passFrom_L67 {L : Nat} {xs : Nat → Int32} {ρ : Type} {Q : ρ → Prop} {y0 : Nat} {y1 : Int32} {y2 : Int32} {y3 : Int32} {y4 : Int32} {y5 : Int32} {k : AH → Option (ρ)} (h_k : ∀ (a0 : AH), P3 L xs a0 → OKI (Q) (k a0)) : ∀ (n : Nat) (z1 : Int32) (z2 : AH), P3 L xs z2 → OKI (Q) (f_Wa_passFrom_L67 y0 y1 y2 y3 y4 y5 k n z1 z2) := by
  intro n
  induction n with
  | zero => intro z1 z2 hp0; exact OKI.none'
  | succ n ih =>
    intro z1 z2 hp0
    rw [f_Wa_passFrom_L67]
    repeat' (first | assumption | (with_reducible exact OKI.none') | (with_reducible refine OKI.bd2' (P := P3 L xs) ?_ (fun _ _ _ => ?_)) | (with_reducible refine OKI.bindH (P := P3 L xs) ?_ (fun _ _ => ?_)) | (with_reducible refine OKI.bind0 (fun _ => ?_)) | (with_reducible refine OKI.ite' ?_ ?_) | (with_reducible refine OKI.cv' ?_) | (with_reducible refine OKI.onl' ?_ (fun _ => ?_)) | (with_reducible refine OKI.some' ?_) | (with_reducible refine ih _ _ ?_) | (with_reducible refine h_k _ ?_) | (with_reducible refine k_Wa_reach (L := L) (xs := xs) ?_) | exact P3.nO _ (by assumption))
theorem k_Wa_passFrom {L : Nat} {xs : Nat → Int32} {h0 : AH} {o : Nat} {p1 : Int32} (hp_h0 : P3 L xs h0) : OKI (fun r => P3 L xs r.2) (f_Wa_passFrom h0 o p1) := by
  unfold f_Wa_passFrom
  repeat' (first | assumption | (with_reducible exact OKI.none') | (with_reducible refine OKI.bd2' (P := P3 L xs) ?_ (fun _ _ _ => ?_)) | (with_reducible refine OKI.bindH (P := P3 L xs) ?_ (fun _ _ => ?_)) | (with_reducible refine OKI.bind0 (fun _ => ?_)) | (with_reducible refine OKI.ite' ?_ ?_) | (with_reducible refine OKI.cv' ?_) | (with_reducible refine OKI.onl' ?_ (fun _ => ?_)) | (with_reducible refine OKI.some' ?_) | (with_reducible refine k_Wa_passFrom_L67 (L := L) (xs := xs) (fun _ _ => ?_) _ _ _ ?_) | exact P3.nO _ (by assumption))
theorem k_Wa_actFrom_L137 {L : Nat} {xs : Nat → Int32} {ρ : Type} {Q : ρ → Prop} {y0 : Nat} {y1 : Int32} {y2 : Int32} {y3 : Int32} {y4 : Int32} {y5 : Int32} {y6 : Int32} {y7 : Int32} {y8 : Int32} {y9 : Int32} {k : AH → Option (ρ)} (h_k : ∀ (a0 : AH), P3 L xs a0 → OKI (Q) (k a0)) : ∀ (n : Nat) (z1 : Int32) (z2 : AH), P3 L xs z2 → OKI (Q) (f_Wa_actFrom_L137 y0 y1 y2 y3 y4 y5 y6 y7 y8 y9 k n z1 z2) := by
  intro n
  induction n with
  | zero => intro z1 z2 hp0; exact OKI.none'
  | succ n ih =>
    intro z1 z2 hp0
    rw [f_Wa_actFrom_L137]
    repeat' (first | assumption | (with_reducible exact OKI.none') | (with_reducible refine OKI.bd2' (P := P3 L xs) ?_ (fun _ _ _ => ?_)) | (with_reducible refine OKI.bindH (P := P3 L xs) ?_ (fun _ _ => ?_)) | (with_reducible refine OKI.bind0 (fun _ => ?_)) | (with_reducible refine OKI.ite' ?_ ?_) | (with_reducible refine OKI.cv' ?_) | (with_reducible refine OKI.onl' ?_ (fun _ => ?_)) | (with_reducible refine OKI.some' ?_) | (with_reducible refine ih _ _ ?_) | (with_reducible refine h_k _ ?_) | (with_reducible refine k_Wa_reach (L := L) (xs := xs) ?_) | exact P3.nO _ (by assumption))
theorem k_Wa_actFrom_L196 {L : Nat} {xs : Nat → Int32} {ρ : Type} {Q : ρ → Prop} {y0 : Nat} {y1 : Int32} {y2 : Int32} {y3 : Int32} {y4 : Int32} {y5 : Int32} {y6 : Int32} {y7 : Int32} {y8 : Int32} {y9 : Int32} {k : AH → Option (ρ)} (h_k : ∀ (a0 : AH), P3 L xs a0 → OKI (Q) (k a0)) : ∀ (n : Nat) (z1 : Int32) (z2 : AH), P3 L xs z2 → OKI (Q) (f_Wa_actFrom_L196 y0 y1 y2 y3 y4 y5 y6 y7 y8 y9 k n z1 z2) := by
  intro n
  induction n with
  | zero => intro z1 z2 hp0; exact OKI.none'
  | succ n ih =>
    intro z1 z2 hp0
    rw [f_Wa_actFrom_L196]
    repeat' (first | assumption | (with_reducible exact OKI.none') | (with_reducible refine OKI.bd2' (P := P3 L xs) ?_ (fun _ _ _ => ?_)) | (with_reducible refine OKI.bindH (P := P3 L xs) ?_ (fun _ _ => ?_)) | (with_reducible refine OKI.bind0 (fun _ => ?_)) | (with_reducible refine OKI.ite' ?_ ?_) | (with_reducible refine OKI.cv' ?_) | (with_reducible refine OKI.onl' ?_ (fun _ => ?_)) | (with_reducible refine OKI.some' ?_) | (with_reducible refine ih _ _ ?_) | (with_reducible refine h_k _ ?_) | (with_reducible refine k_Wa_reach (L := L) (xs := xs) ?_) | exact P3.nO _ (by assumption))
theorem k_Wa_actFrom {L : Nat} {xs : Nat → Int32} {h0 : AH} {o : Nat} {p1 : Int32} (hp_h0 : P3 L xs h0) : OKI (fun r => P3 L xs r.2) (f_Wa_actFrom h0 o p1) := by
  unfold f_Wa_actFrom
  repeat' (first | assumption | (with_reducible exact OKI.none') | (with_reducible refine OKI.bd2' (P := P3 L xs) ?_ (fun _ _ _ => ?_)) | (with_reducible refine OKI.bindH (P := P3 L xs) ?_ (fun _ _ => ?_)) | (with_reducible refine OKI.bind0 (fun _ => ?_)) | (with_reducible refine OKI.ite' ?_ ?_) | (with_reducible refine OKI.cv' ?_) | (with_reducible refine OKI.onl' ?_ (fun _ => ?_)) | (with_reducible refine OKI.some' ?_) | (with_reducible refine k_Wa_actFrom_L137 (L := L) (xs := xs) (fun _ _ => ?_) _ _ _ ?_) | (with_reducible refine k_Wa_actFrom_L196 (L := L) (xs := xs) (fun _ _ => ?_) _ _ _ ?_) | (with_reducible refine k_Wa_reach (L := L) (xs := xs) ?_) | exact P3.nO _ (by assumption))
theorem k_Wa_keepWay_L7 {L : Nat} {xs : Nat → Int32} {ρ : Type} {Q : ρ → Prop} {y0 : Nat} {k : AH → Option (ρ)} (h_k : ∀ (a0 : AH), P3 L xs a0 → OKI (Q) (k a0)) : ∀ (n : Nat) (z1 : Int32) (z2 : AH), P3 L xs z2 → OKI (Q) (f_Wa_keepWay_L7 y0 k n z1 z2) := by
  intro n
  induction n with
  | zero => intro z1 z2 hp0; exact OKI.none'
  | succ n ih =>
    intro z1 z2 hp0
    rw [f_Wa_keepWay_L7]
    repeat' (first | assumption | (with_reducible exact OKI.none') | (with_reducible refine OKI.bd2' (P := P3 L xs) ?_ (fun _ _ _ => ?_)) | (with_reducible refine OKI.bindH (P := P3 L xs) ?_ (fun _ _ => ?_)) | (with_reducible refine OKI.bind0 (fun _ => ?_)) | (with_reducible refine OKI.ite' ?_ ?_) | (with_reducible refine OKI.cv' ?_) | (with_reducible refine OKI.onl' ?_ (fun _ => ?_)) | (with_reducible refine OKI.some' ?_) | (with_reducible refine ih _ _ ?_) | (with_reducible refine h_k _ ?_) | (with_reducible refine k_pI ?_) | (with_reducible refine k_wI ?_) | exact P3.nO _ (by assumption))
theorem k_Wa_keepWay_L58 {L : Nat} {xs : Nat → Int32} {y0 : Nat}  : ∀ (n : Nat) (z1 : Int32) (z2 : AH), P3 L xs z2 → OKI (P3 L xs) (f_Wa_keepWay_L58 y0 n z1 z2) := by
  intro n
  induction n with
  | zero => intro z1 z2 hp0; exact OKI.none'
  | succ n ih =>
    intro z1 z2 hp0
    rw [f_Wa_keepWay_L58]
    repeat' (first | assumption | (with_reducible exact OKI.none') | (with_reducible refine OKI.bd2' (P := P3 L xs) ?_ (fun _ _ _ => ?_)) | (with_reducible refine OKI.bindH (P := P3 L xs) ?_ (fun _ _ => ?_)) | (with_reducible refine OKI.bind0 (fun _ => ?_)) | (with_reducible refine OKI.ite' ?_ ?_) | (with_reducible refine OKI.cv' ?_) | (with_reducible refine OKI.onl' ?_ (fun _ => ?_)) | (with_reducible refine OKI.some' ?_) | (with_reducible refine ih _ _ ?_) | (with_reducible refine k_wI ?_) | exact P3.nO _ (by assumption))
theorem k_Wa_keepWay {L : Nat} {xs : Nat → Int32} {h0 : AH} {o : Nat} {p1 : Int32} (hp_h0 : P3 L xs h0) : OKI (P3 L xs) (f_Wa_keepWay h0 o p1) := by
  unfold f_Wa_keepWay
  repeat' (first | assumption | (with_reducible exact OKI.none') | (with_reducible refine OKI.bd2' (P := P3 L xs) ?_ (fun _ _ _ => ?_)) | (with_reducible refine OKI.bindH (P := P3 L xs) ?_ (fun _ _ => ?_)) | (with_reducible refine OKI.bind0 (fun _ => ?_)) | (with_reducible refine OKI.ite' ?_ ?_) | (with_reducible refine OKI.cv' ?_) | (with_reducible refine OKI.onl' ?_ (fun _ => ?_)) | (with_reducible refine OKI.some' ?_) | (with_reducible refine k_Wa_keepWay_L7 (L := L) (xs := xs) (fun _ _ => ?_) _ _ _ ?_) | (with_reducible refine k_Wa_keepWay_L58 (L := L) (xs := xs) _ _ _ ?_) | (with_reducible refine k_pI ?_) | exact P3.nO _ (by assumption))
theorem k_Wa_through_L51 {L : Nat} {xs : Nat → Int32} {ρ : Type} {Q : ρ → Prop} {y0 : Nat} {k : Int32 → AH → Option (ρ)} (h_k : ∀ (a0 : Int32) (a1 : AH), P3 L xs a1 → OKI (Q) (k a0 a1)) : ∀ (n : Nat) (z1 : Int32) (z2 : Int32) (z3 : AH), P3 L xs z3 → OKI (Q) (f_Wa_through_L51 y0 k n z1 z2 z3) := by
  intro n
  induction n with
  | zero => intro z1 z2 z3 hp0; exact OKI.none'
  | succ n ih =>
    intro z1 z2 z3 hp0
    rw [f_Wa_through_L51]
    repeat' (first | assumption | (with_reducible exact OKI.none') | (with_reducible refine OKI.bd2' (P := P3 L xs) ?_ (fun _ _ _ => ?_)) | (with_reducible refine OKI.bindH (P := P3 L xs) ?_ (fun _ _ => ?_)) | (with_reducible refine OKI.bind0 (fun _ => ?_)) | (with_reducible refine OKI.ite' ?_ ?_) | (with_reducible refine OKI.cv' ?_) | (with_reducible refine OKI.onl' ?_ (fun _ => ?_)) | (with_reducible refine OKI.some' ?_) | (with_reducible refine ih _ _ _ ?_) | (with_reducible refine h_k _ _ ?_) | (with_reducible refine k_Wa_passFrom (L := L) (xs := xs) ?_) | (with_reducible refine k_Wa_actFrom (L := L) (xs := xs) ?_) | (with_reducible refine k_Wa_keepWay (L := L) (xs := xs) ?_) | exact P3.nO _ (by assumption))
theorem k_Wa_through {L : Nat} {xs : Nat → Int32} {h0 : AH} {o : Nat} {p1 : Option Nat} {p2 : Option Nat} {p3 : Int32} (hp_h0 : P3 L xs h0) : OKI (fun r => P3 L xs r.2) (f_Wa_through h0 o p1 p2 p3) := by
  unfold f_Wa_through
  repeat' (first | assumption | (with_reducible exact OKI.none') | (with_reducible refine OKI.bd2' (P := P3 L xs) ?_ (fun _ _ _ => ?_)) | (with_reducible refine OKI.bindH (P := P3 L xs) ?_ (fun _ _ => ?_)) | (with_reducible refine OKI.bind0 (fun _ => ?_)) | (with_reducible refine OKI.ite' ?_ ?_) | (with_reducible refine OKI.cv' ?_) | (with_reducible refine OKI.onl' ?_ (fun _ => ?_)) | (with_reducible refine OKI.some' ?_) | (with_reducible refine k_jA_fill_I (L := L) (xs := xs) ?_) | (with_reducible refine k_Wa_reach (L := L) (xs := xs) ?_) | (with_reducible refine k_Wa_through_L51 (L := L) (xs := xs) (fun _ _ _ => ?_) _ _ _ _ ?_) | (with_reducible refine k_pI ?_) | (with_reducible refine k_pZ ?_) | (with_reducible refine k_pR ?_) | exact P3.nO _ (by assumption))
theorem k_C_join {L : Nat} {xs : Nat → Int32} {h0 : AH} {o : Nat} {p1 : Int32} {p2 : Int32} {p3 : Int32} (hp_h0 : P3 L xs h0) : OKI (fun r => P3 L xs r.2) (f_C_join h0 o p1 p2 p3) := by
  unfold f_C_join
  repeat' (first | assumption | (with_reducible exact OKI.none') | (with_reducible refine OKI.bd2' (P := P3 L xs) ?_ (fun _ _ _ => ?_)) | (with_reducible refine OKI.bindH (P := P3 L xs) ?_ (fun _ _ => ?_)) | (with_reducible refine OKI.bind0 (fun _ => ?_)) | (with_reducible refine OKI.ite' ?_ ?_) | (with_reducible refine OKI.cv' ?_) | (with_reducible refine OKI.onl' ?_ (fun _ => ?_)) | (with_reducible refine OKI.some' ?_) | (with_reducible refine k_Wa_through (L := L) (xs := xs) ?_) | (with_reducible refine k_pI ?_) | exact P3.nO _ (by assumption))
theorem k_Fi_dropsSome_L17 {L : Nat} {xs : Nat → Int32} {ρ : Type} {Q : ρ → Prop} {y0 : Nat} {y2 : Int32} {k : Int32 → AH → Option (ρ)} (h_k : ∀ (a0 : Int32) (a1 : AH), P3 L xs a1 → OKI (Q) (k a0 a1)) : ∀ (n : Nat) (z1 : Int32) (z2 : Int32) (z3 : AH), P3 L xs z3 → OKI (Q) (f_Fi_dropsSome_L17 y0 y2 k n z1 z2 z3) := by
  intro n
  induction n with
  | zero => intro z1 z2 z3 hp0; exact OKI.none'
  | succ n ih =>
    intro z1 z2 z3 hp0
    rw [f_Fi_dropsSome_L17]
    repeat' (first | assumption | (with_reducible exact OKI.none') | (with_reducible refine OKI.bd2' (P := P3 L xs) ?_ (fun _ _ _ => ?_)) | (with_reducible refine OKI.bindH (P := P3 L xs) ?_ (fun _ _ => ?_)) | (with_reducible refine OKI.bind0 (fun _ => ?_)) | (with_reducible refine OKI.ite' ?_ ?_) | (with_reducible refine OKI.cv' ?_) | (with_reducible refine OKI.onl' ?_ (fun _ => ?_)) | (with_reducible refine OKI.some' ?_) | (with_reducible refine ih _ _ _ ?_) | (with_reducible refine h_k _ _ ?_) | (with_reducible refine k_wI ?_) | exact P3.nO _ (by assumption))
theorem k_Fi_dropsSome_L4 {L : Nat} {xs : Nat → Int32} {y0 : Nat}  : ∀ (n : Nat) (z1 : Int32) (z2 : Int32) (z3 : AH), P3 L xs z3 → OKI (fun r => P3 L xs r.2) (f_Fi_dropsSome_L4 y0 n z1 z2 z3) := by
  intro n
  induction n with
  | zero => intro z1 z2 z3 hp0; exact OKI.none'
  | succ n ih =>
    intro z1 z2 z3 hp0
    rw [f_Fi_dropsSome_L4]
    repeat' (first | assumption | (with_reducible exact OKI.none') | (with_reducible refine OKI.bd2' (P := P3 L xs) ?_ (fun _ _ _ => ?_)) | (with_reducible refine OKI.bindH (P := P3 L xs) ?_ (fun _ _ => ?_)) | (with_reducible refine OKI.bind0 (fun _ => ?_)) | (with_reducible refine OKI.ite' ?_ ?_) | (with_reducible refine OKI.cv' ?_) | (with_reducible refine OKI.onl' ?_ (fun _ => ?_)) | (with_reducible refine OKI.some' ?_) | (with_reducible refine ih _ _ _ ?_) | (with_reducible refine k_Fi_dropsSome_L17 (L := L) (xs := xs) (fun _ _ _ => ?_) _ _ _ _ ?_) | exact P3.nO _ (by assumption))
theorem k_Fi_dropsSome {L : Nat} {xs : Nat → Int32} {h0 : AH} {o : Nat} (hp_h0 : P3 L xs h0) : OKI (fun r => P3 L xs r.2) (f_Fi_dropsSome h0 o) := by
  unfold f_Fi_dropsSome
  repeat' (first | assumption | (with_reducible exact OKI.none') | (with_reducible refine OKI.bd2' (P := P3 L xs) ?_ (fun _ _ _ => ?_)) | (with_reducible refine OKI.bindH (P := P3 L xs) ?_ (fun _ _ => ?_)) | (with_reducible refine OKI.bind0 (fun _ => ?_)) | (with_reducible refine OKI.ite' ?_ ?_) | (with_reducible refine OKI.cv' ?_) | (with_reducible refine OKI.onl' ?_ (fun _ => ?_)) | (with_reducible refine OKI.some' ?_) | (with_reducible refine k_Fi_dropsSome_L4 (L := L) (xs := xs) _ _ _ _ ?_) | exact P3.nO _ (by assumption))
theorem k_Fi_compare_L35 {L : Nat} {xs : Nat → Int32} {y0 : Nat}  : ∀ (n : Nat) (z1 : Int32) (z2 : Int32) (z3 : AH), P3 L xs z3 → OKI (P3 L xs) (f_Fi_compare_L35 y0 n z1 z2 z3) := by
  intro n
  induction n with
  | zero => intro z1 z2 z3 hp0; exact OKI.none'
  | succ n ih =>
    intro z1 z2 z3 hp0
    rw [f_Fi_compare_L35]
    repeat' (first | assumption | (with_reducible exact OKI.none') | (with_reducible refine OKI.bd2' (P := P3 L xs) ?_ (fun _ _ _ => ?_)) | (with_reducible refine OKI.bindH (P := P3 L xs) ?_ (fun _ _ => ?_)) | (with_reducible refine OKI.bind0 (fun _ => ?_)) | (with_reducible refine OKI.ite' ?_ ?_) | (with_reducible refine OKI.cv' ?_) | (with_reducible refine OKI.onl' ?_ (fun _ => ?_)) | (with_reducible refine OKI.some' ?_) | (with_reducible refine ih _ _ _ ?_) | (with_reducible refine k_Fi_dropsSome (L := L) (xs := xs) ?_) | exact P3.nO _ (by assumption))
theorem k_Fi_compare {L : Nat} {xs : Nat → Int32} {h0 : AH} {o : Nat} {p1 : Option Nat} {p2 : Option Nat} (hp_h0 : P3 L xs h0) : OKI (P3 L xs) (f_Fi_compare h0 o p1 p2) := by
  unfold f_Fi_compare
  repeat' (first | assumption | (with_reducible exact OKI.none') | (with_reducible refine OKI.bd2' (P := P3 L xs) ?_ (fun _ _ _ => ?_)) | (with_reducible refine OKI.bindH (P := P3 L xs) ?_ (fun _ _ => ?_)) | (with_reducible refine OKI.bind0 (fun _ => ?_)) | (with_reducible refine OKI.ite' ?_ ?_) | (with_reducible refine OKI.cv' ?_) | (with_reducible refine OKI.onl' ?_ (fun _ => ?_)) | (with_reducible refine OKI.some' ?_) | (with_reducible refine k_jA_fill_I (L := L) (xs := xs) ?_) | (with_reducible refine k_Fi_compare_L35 (L := L) (xs := xs) _ _ _ _ ?_) | (with_reducible refine k_pR ?_) | exact P3.nO _ (by assumption))
theorem k_C_fit {L : Nat} {xs : Nat → Int32} {h0 : AH} {o : Nat} {p1 : Int32} {p2 : Int32} (hp_h0 : P3 L xs h0) : OKI (fun r => P3 L xs r.2) (f_C_fit h0 o p1 p2) := by
  unfold f_C_fit
  repeat' (first | assumption | (with_reducible exact OKI.none') | (with_reducible refine OKI.bd2' (P := P3 L xs) ?_ (fun _ _ _ => ?_)) | (with_reducible refine OKI.bindH (P := P3 L xs) ?_ (fun _ _ => ?_)) | (with_reducible refine OKI.bind0 (fun _ => ?_)) | (with_reducible refine OKI.ite' ?_ ?_) | (with_reducible refine OKI.cv' ?_) | (with_reducible refine OKI.onl' ?_ (fun _ => ?_)) | (with_reducible refine OKI.some' ?_) | (with_reducible refine k_Fi_compare (L := L) (xs := xs) ?_) | exact P3.nO _ (by assumption))
theorem k_C_swap_L50 {L : Nat} {xs : Nat → Int32} {h0 : AH} {y0 : Nat} {y3 : Int32} {y4 : Nat} (hp_h0 : P3 L xs h0) : ∀ (n : Nat) (z1 : Int32), OKI (fun r => P3 L xs r.2) (f_C_swap_L50 h0 y0 y3 y4 n z1) := by
  intro n
  induction n with
  | zero => intro z1; exact OKI.none'
  | succ n ih =>
    intro z1
    rw [f_C_swap_L50]
    repeat' (first | assumption | (with_reducible exact OKI.none') | (with_reducible refine OKI.bd2' (P := P3 L xs) ?_ (fun _ _ _ => ?_)) | (with_reducible refine OKI.bindH (P := P3 L xs) ?_ (fun _ _ => ?_)) | (with_reducible refine OKI.bind0 (fun _ => ?_)) | (with_reducible refine OKI.ite' ?_ ?_) | (with_reducible refine OKI.cv' ?_) | (with_reducible refine OKI.onl' ?_ (fun _ => ?_)) | (with_reducible refine OKI.some' ?_) | (with_reducible refine ih _ ) | exact P3.nO _ (by assumption))
theorem k_C_swap {L : Nat} {xs : Nat → Int32} {h0 : AH} {o : Nat} {p1 : Int32} {p2 : Int32} {p3 : Int32} (hp_h0 : P3 L xs h0) : OKI (fun r => P3 L xs r.2) (f_C_swap h0 o p1 p2 p3) := by
  unfold f_C_swap
  repeat' (first | assumption | (with_reducible exact OKI.none') | (with_reducible refine OKI.bd2' (P := P3 L xs) ?_ (fun _ _ _ => ?_)) | (with_reducible refine OKI.bindH (P := P3 L xs) ?_ (fun _ _ => ?_)) | (with_reducible refine OKI.bind0 (fun _ => ?_)) | (with_reducible refine OKI.ite' ?_ ?_) | (with_reducible refine OKI.cv' ?_) | (with_reducible refine OKI.onl' ?_ (fun _ => ?_)) | (with_reducible refine OKI.some' ?_) | (with_reducible refine k_Fi_compare (L := L) (xs := xs) ?_) | (with_reducible refine k_C_swap_L50 (L := L) (xs := xs) ?_ _ _) | exact P3.nO _ (by assumption))
theorem k_Ad_reach {L : Nat} {xs : Nat → Int32} {h0 : AH} {o : Nat} {p1 : Int32} {p2 : Int32} (hp_h0 : P3 L xs h0) : OKI (P3 L xs) (f_Ad_reach h0 o p1 p2) := by
  unfold f_Ad_reach
  repeat' (first | assumption | (with_reducible exact OKI.none') | (with_reducible refine OKI.bd2' (P := P3 L xs) ?_ (fun _ _ _ => ?_)) | (with_reducible refine OKI.bindH (P := P3 L xs) ?_ (fun _ _ => ?_)) | (with_reducible refine OKI.bind0 (fun _ => ?_)) | (with_reducible refine OKI.ite' ?_ ?_) | (with_reducible refine OKI.cv' ?_) | (with_reducible refine OKI.onl' ?_ (fun _ => ?_)) | (with_reducible refine OKI.some' ?_) | (with_reducible refine k_pI ?_) | (with_reducible refine k_wI ?_) | exact P3.nO _ (by assumption))
theorem k_Ad_agreeAt_L17 {L : Nat} {xs : Nat → Int32} {ρ : Type} {Q : ρ → Prop} {h0 : AH} {y0 : Nat} {y1 : Int32} {y2 : Int32} {k : Int32 → Int32 → Int32 → Int32 → Int32 → Option (ρ)} (h_k : ∀ (a0 : Int32) (a1 : Int32) (a2 : Int32) (a3 : Int32) (a4 : Int32), OKI (Q) (k a0 a1 a2 a3 a4)) (hp_h0 : P3 L xs h0) : ∀ (n : Nat) (z1 : Int32) (z2 : Int32) (z3 : Int32) (z4 : Int32) (z5 : Int32) (z6 : Int32), OKI (Q) (f_Ad_agreeAt_L17 h0 y0 y1 y2 k n z1 z2 z3 z4 z5 z6) := by
  intro n
  induction n with
  | zero => intro z1 z2 z3 z4 z5 z6; exact OKI.none'
  | succ n ih =>
    intro z1 z2 z3 z4 z5 z6
    rw [f_Ad_agreeAt_L17]
    repeat' (first | assumption | (with_reducible exact OKI.none') | (with_reducible refine OKI.bd2' (P := P3 L xs) ?_ (fun _ _ _ => ?_)) | (with_reducible refine OKI.bindH (P := P3 L xs) ?_ (fun _ _ => ?_)) | (with_reducible refine OKI.bind0 (fun _ => ?_)) | (with_reducible refine OKI.ite' ?_ ?_) | (with_reducible refine OKI.cv' ?_) | (with_reducible refine OKI.onl' ?_ (fun _ => ?_)) | (with_reducible refine OKI.some' ?_) | (with_reducible refine ih _ _ _ _ _ _ ) | (with_reducible refine h_k _ _ _ _ _ ) | exact P3.nO _ (by assumption))
theorem k_Ad_passFrom_L2 {L : Nat} {xs : Nat → Int32} {y0 : Nat} {y1 : Int32} {y2 : Int32}  : ∀ (n : Nat) (z1 : Int32) (z2 : AH), P3 L xs z2 → OKI (P3 L xs) (f_Ad_passFrom_L2 y0 y1 y2 n z1 z2) := by
  intro n
  induction n with
  | zero => intro z1 z2 hp0; exact OKI.none'
  | succ n ih =>
    intro z1 z2 hp0
    rw [f_Ad_passFrom_L2]
    repeat' (first | assumption | (with_reducible exact OKI.none') | (with_reducible refine OKI.bd2' (P := P3 L xs) ?_ (fun _ _ _ => ?_)) | (with_reducible refine OKI.bindH (P := P3 L xs) ?_ (fun _ _ => ?_)) | (with_reducible refine OKI.bind0 (fun _ => ?_)) | (with_reducible refine OKI.ite' ?_ ?_) | (with_reducible refine OKI.cv' ?_) | (with_reducible refine OKI.onl' ?_ (fun _ => ?_)) | (with_reducible refine OKI.some' ?_) | (with_reducible refine ih _ _ ?_) | (with_reducible refine k_Ad_reach (L := L) (xs := xs) ?_) | exact P3.nO _ (by assumption))
theorem k_Ad_passFrom {L : Nat} {xs : Nat → Int32} {h0 : AH} {o : Nat} {p1 : Int32} {p2 : Int32} (hp_h0 : P3 L xs h0) : OKI (P3 L xs) (f_Ad_passFrom h0 o p1 p2) := by
  unfold f_Ad_passFrom
  repeat' (first | assumption | (with_reducible exact OKI.none') | (with_reducible refine OKI.bd2' (P := P3 L xs) ?_ (fun _ _ _ => ?_)) | (with_reducible refine OKI.bindH (P := P3 L xs) ?_ (fun _ _ => ?_)) | (with_reducible refine OKI.bind0 (fun _ => ?_)) | (with_reducible refine OKI.ite' ?_ ?_) | (with_reducible refine OKI.cv' ?_) | (with_reducible refine OKI.onl' ?_ (fun _ => ?_)) | (with_reducible refine OKI.some' ?_) | (with_reducible refine k_Ad_passFrom_L2 (L := L) (xs := xs) _ _ _ ?_) | exact P3.nO _ (by assumption))
theorem k_Ad_agree_L21 {L : Nat} {xs : Nat → Int32} {y0 : Nat}  : ∀ (n : Nat) (z1 : Int32) (z2 : AH), P3 L xs z2 → OKI (fun r => P3 L xs r.2) (f_Ad_agree_L21 y0 n z1 z2) := by
  intro n
  induction n with
  | zero => intro z1 z2 hp0; exact OKI.none'
  | succ n ih =>
    intro z1 z2 hp0
    rw [f_Ad_agree_L21]
    repeat' (first | assumption | (with_reducible exact OKI.none') | (with_reducible refine OKI.bd2' (P := P3 L xs) ?_ (fun _ _ _ => ?_)) | (with_reducible refine OKI.bindH (P := P3 L xs) ?_ (fun _ _ => ?_)) | (with_reducible refine OKI.bind0 (fun _ => ?_)) | (with_reducible refine OKI.ite' ?_ ?_) | (with_reducible refine OKI.cv' ?_) | (with_reducible refine OKI.onl' ?_ (fun _ => ?_)) | (with_reducible refine OKI.some' ?_) | (with_reducible refine ih _ _ ?_) | (with_reducible refine k_Ad_passFrom (L := L) (xs := xs) ?_) | (with_reducible refine k_pI ?_) | exact P3.nO _ (by assumption))
theorem k_Ad_agree {L : Nat} {xs : Nat → Int32} {h0 : AH} {o : Nat} (hp_h0 : P3 L xs h0) : OKI (fun r => P3 L xs r.2) (f_Ad_agree h0 o) := by
  unfold f_Ad_agree
  repeat' (first | assumption | (with_reducible exact OKI.none') | (with_reducible refine OKI.bd2' (P := P3 L xs) ?_ (fun _ _ _ => ?_)) | (with_reducible refine OKI.bindH (P := P3 L xs) ?_ (fun _ _ => ?_)) | (with_reducible refine OKI.bind0 (fun _ => ?_)) | (with_reducible refine OKI.ite' ?_ ?_) | (with_reducible refine OKI.cv' ?_) | (with_reducible refine OKI.onl' ?_ (fun _ => ?_)) | (with_reducible refine OKI.some' ?_) | (with_reducible refine k_jA_fill_I (L := L) (xs := xs) ?_) | (with_reducible refine k_Ad_reach (L := L) (xs := xs) ?_) | (with_reducible refine k_Ad_agree_L21 (L := L) (xs := xs) _ _ _ ?_) | (with_reducible refine k_pI ?_) | exact P3.nO _ (by assumption))
theorem k_Ad_keepFound_L4 {L : Nat} {xs : Nat → Int32} {ρ : Type} {Q : ρ → Prop} {h0 : AH} {y0 : Nat} {k : Int32 → Option (ρ)} (h_k : ∀ (a0 : Int32), OKI (Q) (k a0)) (hp_h0 : P3 L xs h0) : ∀ (n : Nat) (z1 : Int32) (z2 : Int32), OKI (Q) (f_Ad_keepFound_L4 h0 y0 k n z1 z2) := by
  intro n
  induction n with
  | zero => intro z1 z2; exact OKI.none'
  | succ n ih =>
    intro z1 z2
    rw [f_Ad_keepFound_L4]
    repeat' (first | assumption | (with_reducible exact OKI.none') | (with_reducible refine OKI.bd2' (P := P3 L xs) ?_ (fun _ _ _ => ?_)) | (with_reducible refine OKI.bindH (P := P3 L xs) ?_ (fun _ _ => ?_)) | (with_reducible refine OKI.bind0 (fun _ => ?_)) | (with_reducible refine OKI.ite' ?_ ?_) | (with_reducible refine OKI.cv' ?_) | (with_reducible refine OKI.onl' ?_ (fun _ => ?_)) | (with_reducible refine OKI.some' ?_) | (with_reducible refine ih _ _ ) | (with_reducible refine h_k _ ) | exact P3.nO _ (by assumption))
theorem k_Ad_keepFound {L : Nat} {xs : Nat → Int32} {h0 : AH} {o : Nat} (hp_h0 : P3 L xs h0) : OKI (P3 L xs) (f_Ad_keepFound h0 o) := by
  unfold f_Ad_keepFound
  repeat' (first | assumption | (with_reducible exact OKI.none') | (with_reducible refine OKI.bd2' (P := P3 L xs) ?_ (fun _ _ _ => ?_)) | (with_reducible refine OKI.bindH (P := P3 L xs) ?_ (fun _ _ => ?_)) | (with_reducible refine OKI.bind0 (fun _ => ?_)) | (with_reducible refine OKI.ite' ?_ ?_) | (with_reducible refine OKI.cv' ?_) | (with_reducible refine OKI.onl' ?_ (fun _ => ?_)) | (with_reducible refine OKI.some' ?_) | (with_reducible refine k_Ad_keepFound_L4 (L := L) (xs := xs) (fun _ => ?_) ?_ _ _ _) | (with_reducible refine k_pI ?_) | (with_reducible refine k_wI ?_) | exact P3.nO _ (by assumption))
theorem k_Ad_assign_L30 {L : Nat} {xs : Nat → Int32} {rec : AH → Nat → Int32 → Option (AH)} {y0 : Nat} {y1 : Int32} {y2 : Int32} (h_rec : ∀ (a0 : AH) (a1 : Nat) (a2 : Int32), P3 L xs a0 → OKI (P3 L xs) (rec a0 a1 a2)) : ∀ (n : Nat) (z1 : Int32) (z2 : AH), P3 L xs z2 → OKI (P3 L xs) (f_Ad_assign_L30 rec y0 y1 y2 n z1 z2) := by
  intro n
  induction n with
  | zero => intro z1 z2 hp0; exact OKI.none'
  | succ n ih =>
    intro z1 z2 hp0
    rw [f_Ad_assign_L30]
    repeat' (first | assumption | (with_reducible exact OKI.none') | (with_reducible refine OKI.bd2' (P := P3 L xs) ?_ (fun _ _ _ => ?_)) | (with_reducible refine OKI.bindH (P := P3 L xs) ?_ (fun _ _ => ?_)) | (with_reducible refine OKI.bind0 (fun _ => ?_)) | (with_reducible refine OKI.ite' ?_ ?_) | (with_reducible refine OKI.cv' ?_) | (with_reducible refine OKI.onl' ?_ (fun _ => ?_)) | (with_reducible refine OKI.some' ?_) | (with_reducible refine ih _ _ ?_) | (with_reducible refine h_rec _ _ _ ?_) | (with_reducible refine k_wI ?_) | exact P3.nO _ (by assumption))
theorem k_Ad_assign {L : Nat} {xs : Nat → Int32}  : ∀ (n : Nat) (z1 : AH) (z2 : Nat) (z3 : Int32), P3 L xs z1 → OKI (P3 L xs) (f_Ad_assign n z1 z2 z3) := by
  intro n
  induction n with
  | zero => intro z1 z2 z3 hp0; exact OKI.none'
  | succ n ih =>
    intro z1 z2 z3 hp0
    rw [f_Ad_assign]
    repeat' (first | assumption | (with_reducible exact OKI.none') | (with_reducible refine OKI.bd2' (P := P3 L xs) ?_ (fun _ _ _ => ?_)) | (with_reducible refine OKI.bindH (P := P3 L xs) ?_ (fun _ _ => ?_)) | (with_reducible refine OKI.bind0 (fun _ => ?_)) | (with_reducible refine OKI.ite' ?_ ?_) | (with_reducible refine OKI.cv' ?_) | (with_reducible refine OKI.onl' ?_ (fun _ => ?_)) | (with_reducible refine OKI.some' ?_) | (with_reducible refine ih _ _ _ ?_) | (with_reducible refine k_Ad_agree (L := L) (xs := xs) ?_) | (with_reducible refine k_Ad_assign_L30 (L := L) (xs := xs) (fun _ _ _ _ => ?_) _ _ _ ?_) | (with_reducible refine k_Ad_keepFound (L := L) (xs := xs) ?_) | exact P3.nO _ (by assumption))
theorem k_Ad_find_L64 {L : Nat} {xs : Nat → Int32} {ρ : Type} {Q : ρ → Prop} {y0 : Nat} {y3 : Int32} {k : AH → Option (ρ)} (h_k : ∀ (a0 : AH), P3 L xs a0 → OKI (Q) (k a0)) : ∀ (n : Nat) (z1 : Int32) (z2 : AH), P3 L xs z2 → OKI (Q) (f_Ad_find_L64 y0 y3 k n z1 z2) := by
  intro n
  induction n with
  | zero => intro z1 z2 hp0; exact OKI.none'
  | succ n ih =>
    intro z1 z2 hp0
    rw [f_Ad_find_L64]
    repeat' (first | assumption | (with_reducible exact OKI.none') | (with_reducible refine OKI.bd2' (P := P3 L xs) ?_ (fun _ _ _ => ?_)) | (with_reducible refine OKI.bindH (P := P3 L xs) ?_ (fun _ _ => ?_)) | (with_reducible refine OKI.bind0 (fun _ => ?_)) | (with_reducible refine OKI.ite' ?_ ?_) | (with_reducible refine OKI.cv' ?_) | (with_reducible refine OKI.onl' ?_ (fun _ => ?_)) | (with_reducible refine OKI.some' ?_) | (with_reducible refine ih _ _ ?_) | (with_reducible refine h_k _ ?_) | (with_reducible refine k_pI ?_) | (with_reducible refine k_wI ?_) | exact P3.nO _ (by assumption))
theorem k_Ad_find {L : Nat} {xs : Nat → Int32} {h0 : AH} {o : Nat} {p1 : Option Nat} {p2 : Option Nat} (hp_h0 : P3 L xs h0) : OKI (P3 L xs) (f_Ad_find h0 o p1 p2) := by
  unfold f_Ad_find
  repeat' (first | assumption | (with_reducible exact OKI.none') | (with_reducible refine OKI.bd2' (P := P3 L xs) ?_ (fun _ _ _ => ?_)) | (with_reducible refine OKI.bindH (P := P3 L xs) ?_ (fun _ _ => ?_)) | (with_reducible refine OKI.bind0 (fun _ => ?_)) | (with_reducible refine OKI.ite' ?_ ?_) | (with_reducible refine OKI.cv' ?_) | (with_reducible refine OKI.onl' ?_ (fun _ => ?_)) | (with_reducible refine OKI.some' ?_) | (with_reducible refine k_jA_fill_I (L := L) (xs := xs) ?_) | (with_reducible refine k_Ad_find_L64 (L := L) (xs := xs) (fun _ _ => ?_) _ _ _ ?_) | (with_reducible refine k_Ad_assign (L := L) (xs := xs) _ _ _ _ ?_) | (with_reducible refine k_pI ?_) | (with_reducible refine k_pR ?_) | exact P3.nO _ (by assumption))
theorem k_C_adapt {L : Nat} {xs : Nat → Int32} {h0 : AH} {o : Nat} {p1 : Int32} {p2 : Int32} (hp_h0 : P3 L xs h0) : OKI (P3 L xs) (f_C_adapt h0 o p1 p2) := by
  unfold f_C_adapt
  repeat' (first | assumption | (with_reducible exact OKI.none') | (with_reducible refine OKI.bd2' (P := P3 L xs) ?_ (fun _ _ _ => ?_)) | (with_reducible refine OKI.bindH (P := P3 L xs) ?_ (fun _ _ => ?_)) | (with_reducible refine OKI.bind0 (fun _ => ?_)) | (with_reducible refine OKI.ite' ?_ ?_) | (with_reducible refine OKI.cv' ?_) | (with_reducible refine OKI.onl' ?_ (fun _ => ?_)) | (with_reducible refine OKI.some' ?_) | (with_reducible refine k_Ad_find (L := L) (xs := xs) ?_) | (with_reducible refine k_pI ?_) | exact P3.nO _ (by assumption))
theorem k_C_adapters {L : Nat} {xs : Nat → Int32} {h0 : AH} {o : Nat} {p1 : Int32} {p2 : Int32} (hp_h0 : P3 L xs h0) : OKI (fun r => P3 L xs r.2) (f_C_adapters h0 o p1 p2) := by
  unfold f_C_adapters
  repeat' (first | assumption | (with_reducible exact OKI.none') | (with_reducible refine OKI.bd2' (P := P3 L xs) ?_ (fun _ _ _ => ?_)) | (with_reducible refine OKI.bindH (P := P3 L xs) ?_ (fun _ _ => ?_)) | (with_reducible refine OKI.bind0 (fun _ => ?_)) | (with_reducible refine OKI.ite' ?_ ?_) | (with_reducible refine OKI.cv' ?_) | (with_reducible refine OKI.onl' ?_ (fun _ => ?_)) | (with_reducible refine OKI.some' ?_) | (with_reducible refine k_C_adapt (L := L) (xs := xs) ?_) | exact P3.nO _ (by assumption))
theorem k_C_adapter {L : Nat} {xs : Nat → Int32} {h0 : AH} {o : Nat} {p1 : Int32} {p2 : Int32} {p3 : Int32} {p4 : Int32} (hp_h0 : P3 L xs h0) : OKI (fun r => P3 L xs r.2) (f_C_adapter h0 o p1 p2 p3 p4) := by
  unfold f_C_adapter
  repeat' (first | assumption | (with_reducible exact OKI.none') | (with_reducible refine OKI.bd2' (P := P3 L xs) ?_ (fun _ _ _ => ?_)) | (with_reducible refine OKI.bindH (P := P3 L xs) ?_ (fun _ _ => ?_)) | (with_reducible refine OKI.bind0 (fun _ => ?_)) | (with_reducible refine OKI.ite' ?_ ?_) | (with_reducible refine OKI.cv' ?_) | (with_reducible refine OKI.onl' ?_ (fun _ => ?_)) | (with_reducible refine OKI.some' ?_) | (with_reducible refine k_C_adapt (L := L) (xs := xs) ?_) | exact P3.nO _ (by assumption))
theorem k_He_init {L : Nat} {xs : Nat → Int32} {h0 : AH} {o : Nat} {p1 : Int32} {p2 : Int32} {p3 : Int32} (hp_h0 : P3 L xs h0) : OKI (P3 L xs) (f_He_init h0 o p1 p2 p3) := by
  unfold f_He_init
  repeat' (first | assumption | (with_reducible exact OKI.none') | (with_reducible refine OKI.bd2' (P := P3 L xs) ?_ (fun _ _ _ => ?_)) | (with_reducible refine OKI.bindH (P := P3 L xs) ?_ (fun _ _ => ?_)) | (with_reducible refine OKI.bind0 (fun _ => ?_)) | (with_reducible refine OKI.ite' ?_ ?_) | (with_reducible refine OKI.cv' ?_) | (with_reducible refine OKI.onl' ?_ (fun _ => ?_)) | (with_reducible refine OKI.some' ?_) | (with_reducible refine k_pR ?_) | (with_reducible refine k_wI ?_) | (with_reducible refine k_nAr ?_) | exact P3.nO _ (by assumption))
theorem k_Ro_addHelper {L : Nat} {xs : Nat → Int32} {h0 : AH} {o : Nat} {p1 : Option Nat} (hp_h0 : P3 L xs h0) : OKI (fun r => P3 L xs r.2) (f_Ro_addHelper h0 o p1) := by
  unfold f_Ro_addHelper
  repeat' (first | assumption | (with_reducible exact OKI.none') | (with_reducible refine OKI.bd2' (P := P3 L xs) ?_ (fun _ _ _ => ?_)) | (with_reducible refine OKI.bindH (P := P3 L xs) ?_ (fun _ _ => ?_)) | (with_reducible refine OKI.bind0 (fun _ => ?_)) | (with_reducible refine OKI.ite' ?_ ?_) | (with_reducible refine OKI.cv' ?_) | (with_reducible refine OKI.onl' ?_ (fun _ => ?_)) | (with_reducible refine OKI.some' ?_) | (with_reducible refine k_pI ?_) | (with_reducible refine k_wR ?_) | exact P3.nO _ (by assumption))
theorem k_C_helper {L : Nat} {xs : Nat → Int32} {h0 : AH} {o : Nat} {p1 : Int32} {p2 : Int32} {p3 : Int32} (hp_h0 : P3 L xs h0) : OKI (fun r => P3 L xs r.2) (f_C_helper h0 o p1 p2 p3) := by
  unfold f_C_helper
  repeat' (first | assumption | (with_reducible exact OKI.none') | (with_reducible refine OKI.bd2' (P := P3 L xs) ?_ (fun _ _ _ => ?_)) | (with_reducible refine OKI.bindH (P := P3 L xs) ?_ (fun _ _ => ?_)) | (with_reducible refine OKI.bind0 (fun _ => ?_)) | (with_reducible refine OKI.ite' ?_ ?_) | (with_reducible refine OKI.cv' ?_) | (with_reducible refine OKI.onl' ?_ (fun _ => ?_)) | (with_reducible refine OKI.some' ?_) | (with_reducible refine k_He_init (L := L) (xs := xs) ?_) | (with_reducible refine k_Ro_addHelper (L := L) (xs := xs) ?_) | exact P3.nO _ (by assumption))
theorem k_C_set {L : Nat} {xs : Nat → Int32} {h0 : AH} {o : Nat} {p1 : Int32} {p2 : Int32} {p3 : Int32} (hp_h0 : P3 L xs h0) : OKI (fun r => P3 L xs r.2) (f_C_set h0 o p1 p2 p3) := by
  unfold f_C_set
  repeat' (first | assumption | (with_reducible exact OKI.none') | (with_reducible refine OKI.bd2' (P := P3 L xs) ?_ (fun _ _ _ => ?_)) | (with_reducible refine OKI.bindH (P := P3 L xs) ?_ (fun _ _ => ?_)) | (with_reducible refine OKI.bind0 (fun _ => ?_)) | (with_reducible refine OKI.ite' ?_ ?_) | (with_reducible refine OKI.cv' ?_) | (with_reducible refine OKI.onl' ?_ (fun _ => ?_)) | (with_reducible refine OKI.some' ?_) | (with_reducible refine k_wI ?_) | exact P3.nO _ (by assumption))
theorem k_C_level {L : Nat} {xs : Nat → Int32} {h0 : AH} {o : Nat} {p1 : Int32} {p2 : Int32} (hp_h0 : P3 L xs h0) : OKI (fun r => P3 L xs r.2) (f_C_level h0 o p1 p2) := by
  unfold f_C_level
  repeat' (first | assumption | (with_reducible exact OKI.none') | (with_reducible refine OKI.bd2' (P := P3 L xs) ?_ (fun _ _ _ => ?_)) | (with_reducible refine OKI.bindH (P := P3 L xs) ?_ (fun _ _ => ?_)) | (with_reducible refine OKI.bind0 (fun _ => ?_)) | (with_reducible refine OKI.ite' ?_ ?_) | (with_reducible refine OKI.cv' ?_) | (with_reducible refine OKI.onl' ?_ (fun _ => ?_)) | (with_reducible refine OKI.some' ?_) | (with_reducible refine k_wI ?_) | exact P3.nO _ (by assumption))
theorem k_C_put {L : Nat} {xs : Nat → Int32} {h0 : AH} {o : Nat} {p1 : Int32} (hp_h0 : P3 L xs h0) : OKI (fun r => P3 L xs r.2) (f_C_put h0 o p1) := by
  unfold f_C_put
  repeat' (first | assumption | (with_reducible exact OKI.none') | (with_reducible refine OKI.bd2' (P := P3 L xs) ?_ (fun _ _ _ => ?_)) | (with_reducible refine OKI.bindH (P := P3 L xs) ?_ (fun _ _ => ?_)) | (with_reducible refine OKI.bind0 (fun _ => ?_)) | (with_reducible refine OKI.ite' ?_ ?_) | (with_reducible refine OKI.cv' ?_) | (with_reducible refine OKI.onl' ?_ (fun _ => ?_)) | (with_reducible refine OKI.some' ?_) | (with_reducible refine k_pI ?_) | (with_reducible refine k_wI ?_) | exact P3.nO _ (by assumption))
theorem k_C_empty {L : Nat} {xs : Nat → Int32} {h0 : AH} {o : Nat} (hp_h0 : P3 L xs h0) : OKI (fun r => P3 L xs r.2) (f_C_empty h0 o) := by
  unfold f_C_empty
  repeat' (first | assumption | (with_reducible exact OKI.none') | (with_reducible refine OKI.bd2' (P := P3 L xs) ?_ (fun _ _ _ => ?_)) | (with_reducible refine OKI.bindH (P := P3 L xs) ?_ (fun _ _ => ?_)) | (with_reducible refine OKI.bind0 (fun _ => ?_)) | (with_reducible refine OKI.ite' ?_ ?_) | (with_reducible refine OKI.cv' ?_) | (with_reducible refine OKI.onl' ?_ (fun _ => ?_)) | (with_reducible refine OKI.some' ?_) | (with_reducible refine k_pI ?_) | exact P3.nO _ (by assumption))
theorem k_Go_startWith {L : Nat} {xs : Nat → Int32} {h0 : AH} {o : Nat} {p1 : Int32} {p2 : Option Nat} (hp_h0 : P3 L xs h0) : OKI (P3 L xs) (f_Go_startWith h0 o p1 p2) := by
  unfold f_Go_startWith
  repeat' (first | assumption | (with_reducible exact OKI.none') | (with_reducible refine OKI.bd2' (P := P3 L xs) ?_ (fun _ _ _ => ?_)) | (with_reducible refine OKI.bindH (P := P3 L xs) ?_ (fun _ _ => ?_)) | (with_reducible refine OKI.bind0 (fun _ => ?_)) | (with_reducible refine OKI.ite' ?_ ?_) | (with_reducible refine OKI.cv' ?_) | (with_reducible refine OKI.onl' ?_ (fun _ => ?_)) | (with_reducible refine OKI.some' ?_) | (with_reducible refine k_jA_fill_I (L := L) (xs := xs) ?_) | (with_reducible refine k_pI ?_) | (with_reducible refine k_cpI ?_) | exact P3.nO _ (by assumption))
theorem k_Go_become {L : Nat} {xs : Nat → Int32} {h0 : AH} {o : Nat} {p1 : Option Nat} (hp_h0 : P3 L xs h0) : OKI (P3 L xs) (f_Go_become h0 o p1) := by
  unfold f_Go_become
  repeat' (first | assumption | (with_reducible exact OKI.none') | (with_reducible refine OKI.bd2' (P := P3 L xs) ?_ (fun _ _ _ => ?_)) | (with_reducible refine OKI.bindH (P := P3 L xs) ?_ (fun _ _ => ?_)) | (with_reducible refine OKI.bind0 (fun _ => ?_)) | (with_reducible refine OKI.ite' ?_ ?_) | (with_reducible refine OKI.cv' ?_) | (with_reducible refine OKI.onl' ?_ (fun _ => ?_)) | (with_reducible refine OKI.some' ?_) | (with_reducible refine k_pI ?_) | (with_reducible refine k_cpI ?_) | exact P3.nO _ (by assumption))
theorem k_Go_go_L45 {L : Nat} {xs : Nat → Int32} {ρ : Type} {Q : ρ → Prop} {y0 : Nat} {y2 : Int32} {y3 : Option Nat} {y4 : Int32} {y5 : Int32} {k : AH → Option (ρ)} (h_k : ∀ (a0 : AH), P3 L xs a0 → OKI (Q) (k a0)) : ∀ (n : Nat) (z1 : Int32) (z2 : AH), P3 L xs z2 → OKI (Q) (f_Go_go_L45 y0 y2 y3 y4 y5 k n z1 z2) := by
  intro n
  induction n with
  | zero => intro z1 z2 hp0; exact OKI.none'
  | succ n ih =>
    intro z1 z2 hp0
    rw [f_Go_go_L45]
    repeat' (first | assumption | (with_reducible exact OKI.none') | (with_reducible refine OKI.bd2' (P := P3 L xs) ?_ (fun _ _ _ => ?_)) | (with_reducible refine OKI.bindH (P := P3 L xs) ?_ (fun _ _ => ?_)) | (with_reducible refine OKI.bind0 (fun _ => ?_)) | (with_reducible refine OKI.ite' ?_ ?_) | (with_reducible refine OKI.cv' ?_) | (with_reducible refine OKI.onl' ?_ (fun _ => ?_)) | (with_reducible refine OKI.some' ?_) | (with_reducible refine ih _ _ ?_) | (with_reducible refine h_k _ ?_) | (with_reducible refine k_wI ?_) | exact P3.nO _ (by assumption))
theorem k_Go_go {L : Nat} {xs : Nat → Int32} {h0 : AH} {o : Nat} {p1 : Option Nat} {p2 : Int32} {p3 : Option Nat} (hp_h0 : P3 L xs h0) : OKI (P3 L xs) (f_Go_go h0 o p1 p2 p3) := by
  unfold f_Go_go
  repeat' (first | assumption | (with_reducible exact OKI.none') | (with_reducible refine OKI.bd2' (P := P3 L xs) ?_ (fun _ _ _ => ?_)) | (with_reducible refine OKI.bindH (P := P3 L xs) ?_ (fun _ _ => ?_)) | (with_reducible refine OKI.bind0 (fun _ => ?_)) | (with_reducible refine OKI.ite' ?_ ?_) | (with_reducible refine OKI.cv' ?_) | (with_reducible refine OKI.onl' ?_ (fun _ => ?_)) | (with_reducible refine OKI.some' ?_) | (with_reducible refine k_Go_go_L45 (L := L) (xs := xs) (fun _ _ => ?_) _ _ _ ?_) | (with_reducible refine k_pI ?_) | (with_reducible refine k_wI ?_) | exact P3.nO _ (by assumption))
theorem k_Ro_goOn {L : Nat} {xs : Nat → Int32} {h0 : AH} {o : Nat} {p1 : Int32} {p2 : Int32} (hp_h0 : P3 L xs h0) : OKI (P3 L xs) (f_Ro_goOn h0 o p1 p2) := by
  unfold f_Ro_goOn
  repeat' (first | assumption | (with_reducible exact OKI.none') | (with_reducible refine OKI.bd2' (P := P3 L xs) ?_ (fun _ _ _ => ?_)) | (with_reducible refine OKI.bindH (P := P3 L xs) ?_ (fun _ _ => ?_)) | (with_reducible refine OKI.bind0 (fun _ => ?_)) | (with_reducible refine OKI.ite' ?_ ?_) | (with_reducible refine OKI.cv' ?_) | (with_reducible refine OKI.onl' ?_ (fun _ => ?_)) | (with_reducible refine OKI.some' ?_) | (with_reducible refine k_Go_become (L := L) (xs := xs) ?_) | (with_reducible refine k_Go_go (L := L) (xs := xs) ?_) | exact P3.nO _ (by assumption))
theorem k_Ro_firstStop_L16 {L : Nat} {xs : Nat → Int32} {y0 : Nat}  : ∀ (n : Nat) (z1 : Int32) (z2 : AH), P3 L xs z2 → OKI (fun r => P3 L xs r.2) (f_Ro_firstStop_L16 y0 n z1 z2) := by
  intro n
  induction n with
  | zero => intro z1 z2 hp0; exact OKI.none'
  | succ n ih =>
    intro z1 z2 hp0
    rw [f_Ro_firstStop_L16]
    repeat' (first | assumption | (with_reducible exact OKI.none') | (with_reducible refine OKI.bd2' (P := P3 L xs) ?_ (fun _ _ _ => ?_)) | (with_reducible refine OKI.bindH (P := P3 L xs) ?_ (fun _ _ => ?_)) | (with_reducible refine OKI.bind0 (fun _ => ?_)) | (with_reducible refine OKI.ite' ?_ ?_) | (with_reducible refine OKI.cv' ?_) | (with_reducible refine OKI.onl' ?_ (fun _ => ?_)) | (with_reducible refine OKI.some' ?_) | (with_reducible refine ih _ _ ?_) | (with_reducible refine k_Ro_goOn (L := L) (xs := xs) ?_) | exact P3.nO _ (by assumption))
theorem k_Ro_firstStop {L : Nat} {xs : Nat → Int32} {h0 : AH} {o : Nat} {p1 : Int32} (hp_h0 : P3 L xs h0) : OKI (fun r => P3 L xs r.2) (f_Ro_firstStop h0 o p1) := by
  unfold f_Ro_firstStop
  repeat' (first | assumption | (with_reducible exact OKI.none') | (with_reducible refine OKI.bd2' (P := P3 L xs) ?_ (fun _ _ _ => ?_)) | (with_reducible refine OKI.bindH (P := P3 L xs) ?_ (fun _ _ => ?_)) | (with_reducible refine OKI.bind0 (fun _ => ?_)) | (with_reducible refine OKI.ite' ?_ ?_) | (with_reducible refine OKI.cv' ?_) | (with_reducible refine OKI.onl' ?_ (fun _ => ?_)) | (with_reducible refine OKI.some' ?_) | (with_reducible refine k_Go_startWith (L := L) (xs := xs) ?_) | (with_reducible refine k_Ro_firstStop_L16 (L := L) (xs := xs) _ _ _ ?_) | exact P3.nO _ (by assumption))
theorem k_C_stops {L : Nat} {xs : Nat → Int32} {h0 : AH} {o : Nat} {p1 : Int32} (hp_h0 : P3 L xs h0) : OKI (fun r => P3 L xs r.2) (f_C_stops h0 o p1) := by
  unfold f_C_stops
  repeat' (first | assumption | (with_reducible exact OKI.none') | (with_reducible refine OKI.bd2' (P := P3 L xs) ?_ (fun _ _ _ => ?_)) | (with_reducible refine OKI.bindH (P := P3 L xs) ?_ (fun _ _ => ?_)) | (with_reducible refine OKI.bind0 (fun _ => ?_)) | (with_reducible refine OKI.ite' ?_ ?_) | (with_reducible refine OKI.cv' ?_) | (with_reducible refine OKI.onl' ?_ (fun _ => ?_)) | (with_reducible refine OKI.some' ?_) | (with_reducible refine k_Ro_firstStop (L := L) (xs := xs) ?_) | exact P3.nO _ (by assumption))
theorem k_C_goingRefusal {L : Nat} {xs : Nat → Int32} {h0 : AH} {o : Nat} {p1 : Int32} (hp_h0 : P3 L xs h0) : OKI (fun r => P3 L xs r.2) (f_C_goingRefusal h0 o p1) := by
  unfold f_C_goingRefusal
  repeat' (first | assumption | (with_reducible exact OKI.none') | (with_reducible refine OKI.bd2' (P := P3 L xs) ?_ (fun _ _ _ => ?_)) | (with_reducible refine OKI.bindH (P := P3 L xs) ?_ (fun _ _ => ?_)) | (with_reducible refine OKI.bind0 (fun _ => ?_)) | (with_reducible refine OKI.ite' ?_ ?_) | (with_reducible refine OKI.cv' ?_) | (with_reducible refine OKI.onl' ?_ (fun _ => ?_)) | (with_reducible refine OKI.some' ?_) | (with_reducible refine k_Ro_firstStop (L := L) (xs := xs) ?_) | exact P3.nO _ (by assumption))
theorem k_C_after {L : Nat} {xs : Nat → Int32} {h0 : AH} {o : Nat} {p1 : Int32} (hp_h0 : P3 L xs h0) : OKI (fun r => P3 L xs r.2) (f_C_after h0 o p1) := by
  unfold f_C_after
  repeat' (first | assumption | (with_reducible exact OKI.none') | (with_reducible refine OKI.bd2' (P := P3 L xs) ?_ (fun _ _ _ => ?_)) | (with_reducible refine OKI.bindH (P := P3 L xs) ?_ (fun _ _ => ?_)) | (with_reducible refine OKI.bind0 (fun _ => ?_)) | (with_reducible refine OKI.ite' ?_ ?_) | (with_reducible refine OKI.cv' ?_) | (with_reducible refine OKI.onl' ?_ (fun _ => ?_)) | (with_reducible refine OKI.some' ?_) | (with_reducible refine k_C_goingRefusal (L := L) (xs := xs) ?_) | exact P3.nO _ (by assumption))
theorem k_C_taint {L : Nat} {xs : Nat → Int32} {h0 : AH} {o : Nat} {p1 : Int32} {p2 : Int32} (hp_h0 : P3 L xs h0) : OKI (fun r => P3 L xs r.2) (f_C_taint h0 o p1 p2) := by
  unfold f_C_taint
  repeat' (first | assumption | (with_reducible exact OKI.none') | (with_reducible refine OKI.bd2' (P := P3 L xs) ?_ (fun _ _ _ => ?_)) | (with_reducible refine OKI.bindH (P := P3 L xs) ?_ (fun _ _ => ?_)) | (with_reducible refine OKI.bind0 (fun _ => ?_)) | (with_reducible refine OKI.ite' ?_ ?_) | (with_reducible refine OKI.cv' ?_) | (with_reducible refine OKI.onl' ?_ (fun _ => ?_)) | (with_reducible refine OKI.some' ?_) | (with_reducible refine k_C_goingRefusal (L := L) (xs := xs) ?_) | exact P3.nO _ (by assumption))
theorem k_Ro_tryFrom_L79 {L : Nat} {xs : Nat → Int32} {rec : AH → Nat → Int32 → Int32 → Option (AH)} {y0 : Nat} {y1 : Int32} {y2 : Int32} (h_rec : ∀ (a0 : AH) (a1 : Nat) (a2 : Int32) (a3 : Int32), P3 L xs a0 → OKI (P3 L xs) (rec a0 a1 a2 a3)) : ∀ (n : Nat) (z1 : Int32) (z2 : AH), P3 L xs z2 → OKI (P3 L xs) (f_Ro_tryFrom_L79 rec y0 y1 y2 n z1 z2) := by
  intro n
  induction n with
  | zero => intro z1 z2 hp0; exact OKI.none'
  | succ n ih =>
    intro z1 z2 hp0
    rw [f_Ro_tryFrom_L79]
    repeat' (first | assumption | (with_reducible exact OKI.none') | (with_reducible refine OKI.bd2' (P := P3 L xs) ?_ (fun _ _ _ => ?_)) | (with_reducible refine OKI.bindH (P := P3 L xs) ?_ (fun _ _ => ?_)) | (with_reducible refine OKI.bind0 (fun _ => ?_)) | (with_reducible refine OKI.ite' ?_ ?_) | (with_reducible refine OKI.cv' ?_) | (with_reducible refine OKI.onl' ?_ (fun _ => ?_)) | (with_reducible refine OKI.some' ?_) | (with_reducible refine ih _ _ ?_) | (with_reducible refine h_rec _ _ _ _ ?_) | (with_reducible refine k_Ro_goOn (L := L) (xs := xs) ?_) | (with_reducible refine k_wI ?_) | exact P3.nO _ (by assumption))
theorem k_Ro_tryFrom {L : Nat} {xs : Nat → Int32}  : ∀ (n : Nat) (z1 : AH) (z2 : Nat) (z3 : Int32) (z4 : Int32), P3 L xs z1 → OKI (P3 L xs) (f_Ro_tryFrom n z1 z2 z3 z4) := by
  intro n
  induction n with
  | zero => intro z1 z2 z3 z4 hp0; exact OKI.none'
  | succ n ih =>
    intro z1 z2 z3 z4 hp0
    rw [f_Ro_tryFrom]
    repeat' (first | assumption | (with_reducible exact OKI.none') | (with_reducible refine OKI.bd2' (P := P3 L xs) ?_ (fun _ _ _ => ?_)) | (with_reducible refine OKI.bindH (P := P3 L xs) ?_ (fun _ _ => ?_)) | (with_reducible refine OKI.bind0 (fun _ => ?_)) | (with_reducible refine OKI.ite' ?_ ?_) | (with_reducible refine OKI.cv' ?_) | (with_reducible refine OKI.onl' ?_ (fun _ => ?_)) | (with_reducible refine OKI.some' ?_) | (with_reducible refine ih _ _ _ _ ?_) | (with_reducible refine k_Ro_tryFrom_L79 (L := L) (xs := xs) (fun _ _ _ _ _ => ?_) _ _ _ ?_) | (with_reducible refine k_pI ?_) | (with_reducible refine k_cpI ?_) | exact P3.nO _ (by assumption))
theorem k_Ro_becomeBest {L : Nat} {xs : Nat → Int32} {h0 : AH} {o : Nat} {p1 : Int32} {p2 : Int32} {p3 : Int32} (hp_h0 : P3 L xs h0) : OKI (fun r => P3 L xs r.2) (f_Ro_becomeBest h0 o p1 p2 p3) := by
  unfold f_Ro_becomeBest
  repeat' (first | assumption | (with_reducible exact OKI.none') | (with_reducible refine OKI.bd2' (P := P3 L xs) ?_ (fun _ _ _ => ?_)) | (with_reducible refine OKI.bindH (P := P3 L xs) ?_ (fun _ _ => ?_)) | (with_reducible refine OKI.bind0 (fun _ => ?_)) | (with_reducible refine OKI.ite' ?_ ?_) | (with_reducible refine OKI.cv' ?_) | (with_reducible refine OKI.onl' ?_ (fun _ => ?_)) | (with_reducible refine OKI.some' ?_) | (with_reducible refine k_Go_startWith (L := L) (xs := xs) ?_) | (with_reducible refine k_Ro_tryFrom (L := L) (xs := xs) _ _ _ _ _ ?_) | (with_reducible refine k_pI ?_) | (with_reducible refine k_cpI ?_) | exact P3.nO _ (by assumption))
theorem k_C_plan {L : Nat} {xs : Nat → Int32} {h0 : AH} {o : Nat} {p1 : Int32} {p2 : Int32} {p3 : Int32} (hp_h0 : P3 L xs h0) : OKI (fun r => P3 L xs r.2) (f_C_plan h0 o p1 p2 p3) := by
  unfold f_C_plan
  repeat' (first | assumption | (with_reducible exact OKI.none') | (with_reducible refine OKI.bd2' (P := P3 L xs) ?_ (fun _ _ _ => ?_)) | (with_reducible refine OKI.bindH (P := P3 L xs) ?_ (fun _ _ => ?_)) | (with_reducible refine OKI.bind0 (fun _ => ?_)) | (with_reducible refine OKI.ite' ?_ ?_) | (with_reducible refine OKI.cv' ?_) | (with_reducible refine OKI.onl' ?_ (fun _ => ?_)) | (with_reducible refine OKI.some' ?_) | (with_reducible refine k_Ro_becomeBest (L := L) (xs := xs) ?_) | (with_reducible refine k_pI ?_) | exact P3.nO _ (by assumption))
theorem k_Ro_isUndone_L17 {L : Nat} {xs : Nat → Int32} {y0 : Nat} {y1 : Int32} {k : AH → Option (Int32 × AH)} (h_k : ∀ (a0 : AH), P3 L xs a0 → OKI (fun r => P3 L xs r.2) (k a0)) : ∀ (n : Nat) (z1 : Int32) (z2 : AH), P3 L xs z2 → OKI (fun r => P3 L xs r.2) (f_Ro_isUndone_L17 y0 y1 k n z1 z2) := by
  intro n
  induction n with
  | zero => intro z1 z2 hp0; exact OKI.none'
  | succ n ih =>
    intro z1 z2 hp0
    rw [f_Ro_isUndone_L17]
    repeat' (first | assumption | (with_reducible exact OKI.none') | (with_reducible refine OKI.bd2' (P := P3 L xs) ?_ (fun _ _ _ => ?_)) | (with_reducible refine OKI.bindH (P := P3 L xs) ?_ (fun _ _ => ?_)) | (with_reducible refine OKI.bind0 (fun _ => ?_)) | (with_reducible refine OKI.ite' ?_ ?_) | (with_reducible refine OKI.cv' ?_) | (with_reducible refine OKI.onl' ?_ (fun _ => ?_)) | (with_reducible refine OKI.some' ?_) | (with_reducible refine ih _ _ ?_) | (with_reducible refine h_k _ ?_) | (with_reducible refine k_Go_go (L := L) (xs := xs) ?_) | exact P3.nO _ (by assumption))
theorem k_Ro_isUndone {L : Nat} {xs : Nat → Int32} {h0 : AH} {o : Nat} {p1 : Int32} {p2 : Int32} (hp_h0 : P3 L xs h0) : OKI (fun r => P3 L xs r.2) (f_Ro_isUndone h0 o p1 p2) := by
  unfold f_Ro_isUndone
  repeat' (first | assumption | (with_reducible exact OKI.none') | (with_reducible refine OKI.bd2' (P := P3 L xs) ?_ (fun _ _ _ => ?_)) | (with_reducible refine OKI.bindH (P := P3 L xs) ?_ (fun _ _ => ?_)) | (with_reducible refine OKI.bind0 (fun _ => ?_)) | (with_reducible refine OKI.ite' ?_ ?_) | (with_reducible refine OKI.cv' ?_) | (with_reducible refine OKI.onl' ?_ (fun _ => ?_)) | (with_reducible refine OKI.some' ?_) | (with_reducible refine k_Go_become (L := L) (xs := xs) ?_) | (with_reducible refine k_Ro_isUndone_L17 (L := L) (xs := xs) (fun _ _ => ?_) _ _ _ ?_) | exact P3.nO _ (by assumption))
theorem k_Ro_undoings_L4 {L : Nat} {xs : Nat → Int32} {y0 : Nat} {y1 : Int32}  : ∀ (n : Nat) (z1 : Int32) (z2 : Int32) (z3 : AH), P3 L xs z3 → OKI (fun r => P3 L xs r.2) (f_Ro_undoings_L4 y0 y1 n z1 z2 z3) := by
  intro n
  induction n with
  | zero => intro z1 z2 z3 hp0; exact OKI.none'
  | succ n ih =>
    intro z1 z2 z3 hp0
    rw [f_Ro_undoings_L4]
    repeat' (first | assumption | (with_reducible exact OKI.none') | (with_reducible refine OKI.bd2' (P := P3 L xs) ?_ (fun _ _ _ => ?_)) | (with_reducible refine OKI.bindH (P := P3 L xs) ?_ (fun _ _ => ?_)) | (with_reducible refine OKI.bind0 (fun _ => ?_)) | (with_reducible refine OKI.ite' ?_ ?_) | (with_reducible refine OKI.cv' ?_) | (with_reducible refine OKI.onl' ?_ (fun _ => ?_)) | (with_reducible refine OKI.some' ?_) | (with_reducible refine ih _ _ _ ?_) | (with_reducible refine k_Ro_isUndone (L := L) (xs := xs) ?_) | exact P3.nO _ (by assumption))
theorem k_Ro_undoings {L : Nat} {xs : Nat → Int32} {h0 : AH} {o : Nat} {p1 : Int32} (hp_h0 : P3 L xs h0) : OKI (fun r => P3 L xs r.2) (f_Ro_undoings h0 o p1) := by
  unfold f_Ro_undoings
  repeat' (first | assumption | (with_reducible exact OKI.none') | (with_reducible refine OKI.bd2' (P := P3 L xs) ?_ (fun _ _ _ => ?_)) | (with_reducible refine OKI.bindH (P := P3 L xs) ?_ (fun _ _ => ?_)) | (with_reducible refine OKI.bind0 (fun _ => ?_)) | (with_reducible refine OKI.ite' ?_ ?_) | (with_reducible refine OKI.cv' ?_) | (with_reducible refine OKI.onl' ?_ (fun _ => ?_)) | (with_reducible refine OKI.some' ?_) | (with_reducible refine k_Ro_undoings_L4 (L := L) (xs := xs) _ _ _ _ ?_) | exact P3.nO _ (by assumption))
theorem k_C_undone {L : Nat} {xs : Nat → Int32} {h0 : AH} {o : Nat} {p1 : Int32} (hp_h0 : P3 L xs h0) : OKI (fun r => P3 L xs r.2) (f_C_undone h0 o p1) := by
  unfold f_C_undone
  repeat' (first | assumption | (with_reducible exact OKI.none') | (with_reducible refine OKI.bd2' (P := P3 L xs) ?_ (fun _ _ _ => ?_)) | (with_reducible refine OKI.bindH (P := P3 L xs) ?_ (fun _ _ => ?_)) | (with_reducible refine OKI.bind0 (fun _ => ?_)) | (with_reducible refine OKI.ite' ?_ ?_) | (with_reducible refine OKI.cv' ?_) | (with_reducible refine OKI.onl' ?_ (fun _ => ?_)) | (with_reducible refine OKI.some' ?_) | (with_reducible refine k_C_goingRefusal (L := L) (xs := xs) ?_) | (with_reducible refine k_Ro_undoings (L := L) (xs := xs) ?_) | exact P3.nO _ (by assumption))
theorem k_C_begin {L : Nat} {xs : Nat → Int32} {h0 : AH} {o : Nat} {p1 : Int32} (hp_h0 : P3 L xs h0) : OKI (fun r => P3 L xs r.2) (f_C_begin h0 o p1) := by
  unfold f_C_begin
  repeat' (first | assumption | (with_reducible exact OKI.none') | (with_reducible refine OKI.bd2' (P := P3 L xs) ?_ (fun _ _ _ => ?_)) | (with_reducible refine OKI.bindH (P := P3 L xs) ?_ (fun _ _ => ?_)) | (with_reducible refine OKI.bind0 (fun _ => ?_)) | (with_reducible refine OKI.ite' ?_ ?_) | (with_reducible refine OKI.cv' ?_) | (with_reducible refine OKI.onl' ?_ (fun _ => ?_)) | (with_reducible refine OKI.some' ?_) | (with_reducible refine k_Lo_startWith (L := L) (xs := xs) ?_) | exact P3.nO _ (by assumption))
theorem k_Wo_become {L : Nat} {xs : Nat → Int32} {h0 : AH} {o : Nat} {p1 : Option Nat} (hp_h0 : P3 L xs h0) : OKI (P3 L xs) (f_Wo_become h0 o p1) := by
  unfold f_Wo_become
  repeat' (first | assumption | (with_reducible exact OKI.none') | (with_reducible refine OKI.bd2' (P := P3 L xs) ?_ (fun _ _ _ => ?_)) | (with_reducible refine OKI.bindH (P := P3 L xs) ?_ (fun _ _ => ?_)) | (with_reducible refine OKI.bind0 (fun _ => ?_)) | (with_reducible refine OKI.ite' ?_ ?_) | (with_reducible refine OKI.cv' ?_) | (with_reducible refine OKI.onl' ?_ (fun _ => ?_)) | (with_reducible refine OKI.some' ?_) | (with_reducible refine k_cpJ ?_) | exact P3.nO _ (by assumption))
theorem k_Lo_addEvent {L : Nat} {xs : Nat → Int32} {h0 : AH} {o : Nat} (hp_h0 : P3 L xs h0) : OKI (fun r => P3 L xs r.2) (f_Lo_addEvent h0 o) := by
  unfold f_Lo_addEvent
  repeat' (first | assumption | (with_reducible exact OKI.none') | (with_reducible refine OKI.bd2' (P := P3 L xs) ?_ (fun _ _ _ => ?_)) | (with_reducible refine OKI.bindH (P := P3 L xs) ?_ (fun _ _ => ?_)) | (with_reducible refine OKI.bind0 (fun _ => ?_)) | (with_reducible refine OKI.ite' ?_ ?_) | (with_reducible refine OKI.cv' ?_) | (with_reducible refine OKI.onl' ?_ (fun _ => ?_)) | (with_reducible refine OKI.some' ?_) | (with_reducible refine k_Wo_become (L := L) (xs := xs) ?_) | (with_reducible refine k_pI ?_) | exact P3.nO _ (by assumption))
theorem k_Wo_keep_L2 {L : Nat} {xs : Nat → Int32} {y0 : Nat} {y1 : Int32} {y2 : Int32}  : ∀ (n : Nat) (z1 : Int32) (z2 : AH), P3 L xs z2 → OKI (P3 L xs) (f_Wo_keep_L2 y0 y1 y2 n z1 z2) := by
  intro n
  induction n with
  | zero => intro z1 z2 hp0; exact OKI.none'
  | succ n ih =>
    intro z1 z2 hp0
    rw [f_Wo_keep_L2]
    repeat' (first | assumption | (with_reducible exact OKI.none') | (with_reducible refine OKI.bd2' (P := P3 L xs) ?_ (fun _ _ _ => ?_)) | (with_reducible refine OKI.bindH (P := P3 L xs) ?_ (fun _ _ => ?_)) | (with_reducible refine OKI.bind0 (fun _ => ?_)) | (with_reducible refine OKI.ite' ?_ ?_) | (with_reducible refine OKI.cv' ?_) | (with_reducible refine OKI.onl' ?_ (fun _ => ?_)) | (with_reducible refine OKI.some' ?_) | (with_reducible refine ih _ _ ?_) | (with_reducible refine k_wJ ?_) | exact P3.nO _ (by assumption))
theorem k_Wo_keep {L : Nat} {xs : Nat → Int32} {h0 : AH} {o : Nat} {p1 : Int32} {p2 : Int32} (hp_h0 : P3 L xs h0) : OKI (P3 L xs) (f_Wo_keep h0 o p1 p2) := by
  unfold f_Wo_keep
  repeat' (first | assumption | (with_reducible exact OKI.none') | (with_reducible refine OKI.bd2' (P := P3 L xs) ?_ (fun _ _ _ => ?_)) | (with_reducible refine OKI.bindH (P := P3 L xs) ?_ (fun _ _ => ?_)) | (with_reducible refine OKI.bind0 (fun _ => ?_)) | (with_reducible refine OKI.ite' ?_ ?_) | (with_reducible refine OKI.cv' ?_) | (with_reducible refine OKI.onl' ?_ (fun _ => ?_)) | (with_reducible refine OKI.some' ?_) | (with_reducible refine k_Wo_keep_L2 (L := L) (xs := xs) _ _ _ ?_) | exact P3.nO _ (by assumption))
theorem k_Wo_move_L2 {L : Nat} {xs : Nat → Int32} {y0 : Nat} {y1 : Int32} {y2 : Int32}  : ∀ (n : Nat) (z1 : Int32) (z2 : AH), P3 L xs z2 → OKI (P3 L xs) (f_Wo_move_L2 y0 y1 y2 n z1 z2) := by
  intro n
  induction n with
  | zero => intro z1 z2 hp0; exact OKI.none'
  | succ n ih =>
    intro z1 z2 hp0
    rw [f_Wo_move_L2]
    repeat' (first | assumption | (with_reducible exact OKI.none') | (with_reducible refine OKI.bd2' (P := P3 L xs) ?_ (fun _ _ _ => ?_)) | (with_reducible refine OKI.bindH (P := P3 L xs) ?_ (fun _ _ => ?_)) | (with_reducible refine OKI.bind0 (fun _ => ?_)) | (with_reducible refine OKI.ite' ?_ ?_) | (with_reducible refine OKI.cv' ?_) | (with_reducible refine OKI.onl' ?_ (fun _ => ?_)) | (with_reducible refine OKI.some' ?_) | (with_reducible refine ih _ _ ?_) | (with_reducible refine k_wJ ?_) | exact P3.nO _ (by assumption))
theorem k_Wo_move {L : Nat} {xs : Nat → Int32} {h0 : AH} {o : Nat} {p1 : Int32} {p2 : Int32} (hp_h0 : P3 L xs h0) : OKI (P3 L xs) (f_Wo_move h0 o p1 p2) := by
  unfold f_Wo_move
  repeat' (first | assumption | (with_reducible exact OKI.none') | (with_reducible refine OKI.bd2' (P := P3 L xs) ?_ (fun _ _ _ => ?_)) | (with_reducible refine OKI.bindH (P := P3 L xs) ?_ (fun _ _ => ?_)) | (with_reducible refine OKI.bind0 (fun _ => ?_)) | (with_reducible refine OKI.ite' ?_ ?_) | (with_reducible refine OKI.cv' ?_) | (with_reducible refine OKI.onl' ?_ (fun _ => ?_)) | (with_reducible refine OKI.some' ?_) | (with_reducible refine k_Wo_move_L2 (L := L) (xs := xs) _ _ _ ?_) | exact P3.nO _ (by assumption))
theorem k_Wo_change_L2 {L : Nat} {xs : Nat → Int32} {ρ : Type} {Q : ρ → Prop} {y0 : Nat} {y1 : Option Nat} {k : AH → Option (ρ)} (h_k : ∀ (a0 : AH), P3 L xs a0 → OKI (Q) (k a0)) : ∀ (n : Nat) (z1 : Int32) (z2 : AH), P3 L xs z2 → OKI (Q) (f_Wo_change_L2 y0 y1 k n z1 z2) := by
  intro n
  induction n with
  | zero => intro z1 z2 hp0; exact OKI.none'
  | succ n ih =>
    intro z1 z2 hp0
    rw [f_Wo_change_L2]
    repeat' (first | assumption | (with_reducible exact OKI.none') | (with_reducible refine OKI.bd2' (P := P3 L xs) ?_ (fun _ _ _ => ?_)) | (with_reducible refine OKI.bindH (P := P3 L xs) ?_ (fun _ _ => ?_)) | (with_reducible refine OKI.bind0 (fun _ => ?_)) | (with_reducible refine OKI.ite' ?_ ?_) | (with_reducible refine OKI.cv' ?_) | (with_reducible refine OKI.onl' ?_ (fun _ => ?_)) | (with_reducible refine OKI.some' ?_) | (with_reducible refine ih _ _ ?_) | (with_reducible refine h_k _ ?_) | (with_reducible refine k_Wo_keep (L := L) (xs := xs) ?_) | exact P3.nO _ (by assumption))
theorem k_Wo_change_L35 {L : Nat} {xs : Nat → Int32} {y0 : Nat} {y1 : Option Nat}  : ∀ (n : Nat) (z1 : Int32) (z2 : AH), P3 L xs z2 → OKI (P3 L xs) (f_Wo_change_L35 y0 y1 n z1 z2) := by
  intro n
  induction n with
  | zero => intro z1 z2 hp0; exact OKI.none'
  | succ n ih =>
    intro z1 z2 hp0
    rw [f_Wo_change_L35]
    repeat' (first | assumption | (with_reducible exact OKI.none') | (with_reducible refine OKI.bd2' (P := P3 L xs) ?_ (fun _ _ _ => ?_)) | (with_reducible refine OKI.bindH (P := P3 L xs) ?_ (fun _ _ => ?_)) | (with_reducible refine OKI.bind0 (fun _ => ?_)) | (with_reducible refine OKI.ite' ?_ ?_) | (with_reducible refine OKI.cv' ?_) | (with_reducible refine OKI.onl' ?_ (fun _ => ?_)) | (with_reducible refine OKI.some' ?_) | (with_reducible refine ih _ _ ?_) | (with_reducible refine k_Wo_move (L := L) (xs := xs) ?_) | exact P3.nO _ (by assumption))
theorem k_Wo_change {L : Nat} {xs : Nat → Int32} {h0 : AH} {o : Nat} {p1 : Option Nat} (hp_h0 : P3 L xs h0) : OKI (P3 L xs) (f_Wo_change h0 o p1) := by
  unfold f_Wo_change
  repeat' (first | assumption | (with_reducible exact OKI.none') | (with_reducible refine OKI.bd2' (P := P3 L xs) ?_ (fun _ _ _ => ?_)) | (with_reducible refine OKI.bindH (P := P3 L xs) ?_ (fun _ _ => ?_)) | (with_reducible refine OKI.bind0 (fun _ => ?_)) | (with_reducible refine OKI.ite' ?_ ?_) | (with_reducible refine OKI.cv' ?_) | (with_reducible refine OKI.onl' ?_ (fun _ => ?_)) | (with_reducible refine OKI.some' ?_) | (with_reducible refine k_Wo_change_L2 (L := L) (xs := xs) (fun _ _ => ?_) _ _ _ ?_) | (with_reducible refine k_Wo_change_L35 (L := L) (xs := xs) _ _ _ ?_) | exact P3.nO _ (by assumption))
theorem k_Wo_add_L2 {L : Nat} {xs : Nat → Int32} {y0 : Nat} {y1 : Option Nat}  : ∀ (n : Nat) (z1 : Int32) (z2 : AH), P3 L xs z2 → OKI (P3 L xs) (f_Wo_add_L2 y0 y1 n z1 z2) := by
  intro n
  induction n with
  | zero => intro z1 z2 hp0; exact OKI.none'
  | succ n ih =>
    intro z1 z2 hp0
    rw [f_Wo_add_L2]
    repeat' (first | assumption | (with_reducible exact OKI.none') | (with_reducible refine OKI.bd2' (P := P3 L xs) ?_ (fun _ _ _ => ?_)) | (with_reducible refine OKI.bindH (P := P3 L xs) ?_ (fun _ _ => ?_)) | (with_reducible refine OKI.bind0 (fun _ => ?_)) | (with_reducible refine OKI.ite' ?_ ?_) | (with_reducible refine OKI.cv' ?_) | (with_reducible refine OKI.onl' ?_ (fun _ => ?_)) | (with_reducible refine OKI.some' ?_) | (with_reducible refine ih _ _ ?_) | (with_reducible refine k_wJ ?_) | exact P3.nO _ (by assumption))
theorem k_Wo_add {L : Nat} {xs : Nat → Int32} {h0 : AH} {o : Nat} {p1 : Option Nat} (hp_h0 : P3 L xs h0) : OKI (P3 L xs) (f_Wo_add h0 o p1) := by
  unfold f_Wo_add
  repeat' (first | assumption | (with_reducible exact OKI.none') | (with_reducible refine OKI.bd2' (P := P3 L xs) ?_ (fun _ _ _ => ?_)) | (with_reducible refine OKI.bindH (P := P3 L xs) ?_ (fun _ _ => ?_)) | (with_reducible refine OKI.bind0 (fun _ => ?_)) | (with_reducible refine OKI.ite' ?_ ?_) | (with_reducible refine OKI.cv' ?_) | (with_reducible refine OKI.onl' ?_ (fun _ => ?_)) | (with_reducible refine OKI.some' ?_) | (with_reducible refine k_Wo_add_L2 (L := L) (xs := xs) _ _ _ ?_) | exact P3.nO _ (by assumption))
theorem k_Lo_addCall {L : Nat} {xs : Nat → Int32} {h0 : AH} {o : Nat} {p1 : Option Nat} {p2 : Int32} (hp_h0 : P3 L xs h0) : OKI (P3 L xs) (f_Lo_addCall h0 o p1 p2) := by
  unfold f_Lo_addCall
  repeat' (first | assumption | (with_reducible exact OKI.none') | (with_reducible refine OKI.bd2' (P := P3 L xs) ?_ (fun _ _ _ => ?_)) | (with_reducible refine OKI.bindH (P := P3 L xs) ?_ (fun _ _ => ?_)) | (with_reducible refine OKI.bind0 (fun _ => ?_)) | (with_reducible refine OKI.ite' ?_ ?_) | (with_reducible refine OKI.cv' ?_) | (with_reducible refine OKI.onl' ?_ (fun _ => ?_)) | (with_reducible refine OKI.some' ?_) | (with_reducible refine k_Lo_addEvent (L := L) (xs := xs) ?_) | (with_reducible refine k_Wo_change (L := L) (xs := xs) ?_) | (with_reducible refine k_Wo_become (L := L) (xs := xs) ?_) | (with_reducible refine k_Wo_add (L := L) (xs := xs) ?_) | exact P3.nO _ (by assumption))
theorem k_C_call {L : Nat} {xs : Nat → Int32} {h0 : AH} {o : Nat} {p1 : Int32} {p2 : Int32} (hp_h0 : P3 L xs h0) : OKI (fun r => P3 L xs r.2) (f_C_call h0 o p1 p2) := by
  unfold f_C_call
  repeat' (first | assumption | (with_reducible exact OKI.none') | (with_reducible refine OKI.bd2' (P := P3 L xs) ?_ (fun _ _ _ => ?_)) | (with_reducible refine OKI.bindH (P := P3 L xs) ?_ (fun _ _ => ?_)) | (with_reducible refine OKI.bind0 (fun _ => ?_)) | (with_reducible refine OKI.ite' ?_ ?_) | (with_reducible refine OKI.cv' ?_) | (with_reducible refine OKI.onl' ?_ (fun _ => ?_)) | (with_reducible refine OKI.some' ?_) | (with_reducible refine k_Lo_addCall (L := L) (xs := xs) ?_) | exact P3.nO _ (by assumption))
theorem k_Lo_addSight {L : Nat} {xs : Nat → Int32} {h0 : AH} {o : Nat} {p1 : Int32} {p2 : Int32} (hp_h0 : P3 L xs h0) : OKI (P3 L xs) (f_Lo_addSight h0 o p1 p2) := by
  unfold f_Lo_addSight
  repeat' (first | assumption | (with_reducible exact OKI.none') | (with_reducible refine OKI.bd2' (P := P3 L xs) ?_ (fun _ _ _ => ?_)) | (with_reducible refine OKI.bindH (P := P3 L xs) ?_ (fun _ _ => ?_)) | (with_reducible refine OKI.bind0 (fun _ => ?_)) | (with_reducible refine OKI.ite' ?_ ?_) | (with_reducible refine OKI.cv' ?_) | (with_reducible refine OKI.onl' ?_ (fun _ => ?_)) | (with_reducible refine OKI.some' ?_) | (with_reducible refine k_Lo_addEvent (L := L) (xs := xs) ?_) | (with_reducible refine k_Wo_keep (L := L) (xs := xs) ?_) | exact P3.nO _ (by assumption))
theorem k_C_see {L : Nat} {xs : Nat → Int32} {h0 : AH} {o : Nat} {p1 : Int32} {p2 : Int32} (hp_h0 : P3 L xs h0) : OKI (fun r => P3 L xs r.2) (f_C_see h0 o p1 p2) := by
  unfold f_C_see
  repeat' (first | assumption | (with_reducible exact OKI.none') | (with_reducible refine OKI.bd2' (P := P3 L xs) ?_ (fun _ _ _ => ?_)) | (with_reducible refine OKI.bindH (P := P3 L xs) ?_ (fun _ _ => ?_)) | (with_reducible refine OKI.bind0 (fun _ => ?_)) | (with_reducible refine OKI.ite' ?_ ?_) | (with_reducible refine OKI.cv' ?_) | (with_reducible refine OKI.onl' ?_ (fun _ => ?_)) | (with_reducible refine OKI.some' ?_) | (with_reducible refine k_Lo_addSight (L := L) (xs := xs) ?_) | exact P3.nO _ (by assumption))
theorem k_C_strike {L : Nat} {xs : Nat → Int32} {h0 : AH} {o : Nat} (hp_h0 : P3 L xs h0) : OKI (fun r => P3 L xs r.2) (f_C_strike h0 o) := by
  unfold f_C_strike
  repeat' (first | assumption | (with_reducible exact OKI.none') | (with_reducible refine OKI.bd2' (P := P3 L xs) ?_ (fun _ _ _ => ?_)) | (with_reducible refine OKI.bindH (P := P3 L xs) ?_ (fun _ _ => ?_)) | (with_reducible refine OKI.bind0 (fun _ => ?_)) | (with_reducible refine OKI.ite' ?_ ?_) | (with_reducible refine OKI.cv' ?_) | (with_reducible refine OKI.onl' ?_ (fun _ => ?_)) | (with_reducible refine OKI.some' ?_) | (with_reducible refine k_pI ?_) | exact P3.nO _ (by assumption))
