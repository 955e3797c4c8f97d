/-! what the printed functions and certificates are put together with -/
def bd2 {α β γ : Type} (o : Option (α × β)) (f : α → β → Option γ) : Option γ := o.bind (fun q => f q.1 q.2)
def bd3 {α β γ δ : Type} (o : Option (α × β × γ)) (f : α → β → γ → Option δ) : Option δ := o.bind (fun q => f q.1 q.2.1 q.2.2)
def bd4 {α β γ δ ε : Type} (o : Option (α × β × γ × δ)) (f : α → β → γ → δ → Option ε) : Option ε := o.bind (fun q => f q.1 q.2.1 q.2.2.1 q.2.2.2)
def bd5 {α β γ δ ε ζ : Type} (o : Option (α × β × γ × δ × ε)) (f : α → β → γ → δ → ε → Option ζ) : Option ζ := o.bind (fun q => f q.1 q.2.1 q.2.2.1 q.2.2.2.1 q.2.2.2.2)
def bd6 {α β γ δ ε ζ η : Type} (o : Option (α × β × γ × δ × ε × ζ)) (f : α → β → γ → δ → ε → ζ → Option η) : Option η := o.bind (fun q => f q.1 q.2.1 q.2.2.1 q.2.2.2.1 q.2.2.2.2.1 q.2.2.2.2.2)
theorem bd1_s {α β : Type} {o : Option α} {f : α → Option β} {r : β} (h : o.bind f = some r) : ∃ a, o = some a ∧ f a = some r := by
  cases o with
  | none => cases h
  | some a => exact ⟨a, rfl, h⟩
theorem bd2_s {α β γ : Type} {o : Option (α × β)} {f : α → β → Option γ} {r : γ} (h : bd2 o f = some r) : ∃ a b, o = some (a, b) ∧ f a b = some r := by
  cases o with
  | none => cases h
  | some q => exact ⟨q.1, q.2, rfl, h⟩
theorem bd3_s {α β γ δ : Type} {o : Option (α × β × γ)} {f : α → β → γ → Option δ} {r : δ} (h : bd3 o f = some r) : ∃ a b c, o = some (a, b, c) ∧ f a b c = some r := by
  cases o with
  | none => cases h
  | some q => exact ⟨q.1, q.2.1, q.2.2, rfl, h⟩
theorem bd4_s {α β γ δ ε : Type} {o : Option (α × β × γ × δ)} {f : α → β → γ → δ → Option ε} {r : ε} (h : bd4 o f = some r) : ∃ a b c d, o = some (a, b, c, d) ∧ f a b c d = some r := by
  cases o with
  | none => cases h
  | some q => exact ⟨q.1, q.2.1, q.2.2.1, q.2.2.2, rfl, h⟩
theorem bd5_s {α β γ δ ε ζ : Type} {o : Option (α × β × γ × δ × ε)} {f : α → β → γ → δ → ε → Option ζ} {r : ζ} (h : bd5 o f = some r) : ∃ a b c d e, o = some (a, b, c, d, e) ∧ f a b c d e = some r := by
  cases o with
  | none => cases h
  | some q => exact ⟨q.1, q.2.1, q.2.2.1, q.2.2.2.1, q.2.2.2.2, rfl, h⟩
theorem bd6_s {α β γ δ ε ζ η : Type} {o : Option (α × β × γ × δ × ε × ζ)} {f : α → β → γ → δ → ε → ζ → Option η} {r : η} (h : bd6 o f = some r) : ∃ a b c d e g, o = some (a, b, c, d, e, g) ∧ f a b c d e g = some r := by
  cases o with
  | none => cases h
  | some q => exact ⟨q.1, q.2.1, q.2.2.1, q.2.2.2.1, q.2.2.2.2.1, q.2.2.2.2.2, rfl, h⟩
theorem ite_c {c : Prop} [Decidable c] {α : Type} {a b : Option α} {r : α} (h : (if c then a else b) = some r) : (c ∧ a = some r) ∨ (¬ c ∧ b = some r) := by
  by_cases q : c
  · rw [if_pos q] at h; exact Or.inl ⟨q, h⟩
  · rw [if_neg q] at h; exact Or.inr ⟨q, h⟩
theorem ite_s {c : Prop} [Decidable c] {α : Type} {a : Option α} {r : α} (h : (if c then a else none) = some r) : c ∧ a = some r := by
  rcases ite_c h with q | q
  · exact q
  · cases q.2
def onl {α : Type} (r : Option Nat) (a : Option α) (b : Nat → Option α) : Option α := match r with
  | none => a
  | some x => b x
theorem onl_s {α : Type} {r : Option Nat} {a : Option α} {b : Nat → Option α} {x : α} (h : onl r a b = some x) : (r = none ∧ a = some x) ∨ ∃ y, r = some y ∧ b y = some x := by
  cases r with
  | none => exact Or.inl ⟨rfl, h⟩
  | some y => exact Or.inr ⟨y, rfl, h⟩
/-- a call of a method of c on the cell b -/
def cv {α : Type} (c : Nat) (h : AH) (b : Nat) (o : Option α) : Option α := if hK h b = (100 + c, 0) then o else none
theorem cv_s {α : Type} {c : Nat} {h : AH} {b : Nat} {o : Option α} {x : α} (hf : cv c h b o = some x) : hK h b = (100 + c, 0) ∧ o = some x := ite_s hf
abbrev rokb (r : Option Nat) : Prop := ∀ a ∈ r, 4 ≤ a
def FU : Nat := 1000000000000
theorem cat_rf (r : Option Nat) : (va_rf r).category = 1 := by cases r <;> rfl
theorem c1n {x : Option (Option Value)} (h : x = some none) : ∀ w, x = some (some w) → w.category = 1 := fun w q => by rw [h] at q; cases q
theorem c1i {x : Option (Option Value)} {v : Int32} (h : x = some (some (.int v))) : ∀ w, x = some (some w) → w.category = 1 := fun w q => by rw [h] at q; cases q; rfl
theorem c1r {x : Option (Option Value)} {r : Option Nat} (h : x = some (some (va_rf r))) : ∀ w, x = some (some w) → w.category = 1 := fun w q => by
  rw [h] at q
  have e := Option.some.inj (Option.some.inj q)
  rw [← e]; exact cat_rf r
theorem iic {x : Int32} {n : Int} {c : Int32} (h : Int32.ofInt n = c) : x + Int32.ofInt n = x + c := by rw [h]
section GL
variable {l : Launch} {E : EN} {mi : MI} {R : Room} {B : (Nat × Nat) × (Nat × Nat)} {Qf : QF} {pc : Nat} {L : List (Option Value)} {st : List Value} {h h' : AH}
theorem ax_nmI {x y : Int32} (e : x = y) (k : AW l E mi R B Qf pc L (.int y :: st) h) : AW l E mi R B Qf pc L (.int x :: st) h := by rw [e]; exact k
theorem ax_nmJ {x y : Int64} (e : x = y) (k : AW l E mi R B Qf pc L (.long y :: st) h) : AW l E mi R B Qf pc L (.long x :: st) h := by rw [e]; exact k
/-- the arguments, each with a mark whether it takes two places -/
def mkL : List (Value × Bool) → List (Option Value)
  | [] => []
  | (v, false) :: r => some v :: mkL r
  | (v, true) :: r => some v :: none :: mkL r
def catOK : List (Value × Bool) → Prop
  | [] => True
  | (v, b) :: r => v.category = (if b then 2 else 1) ∧ catOK r
theorem mkL_len : ∀ (tg : List (Value × Bool)), catOK tg → argL (tg.map (·.1)) = (mkL tg).length
  | [], _ => rfl
  | (v, false) :: r, h => by
    have := mkL_len r h.2
    show v.category + argL (r.map (·.1)) = (mkL r).length + 1
    have h1 : v.category = 1 := h.1
    omega
  | (v, true) :: r, h => by
    have := mkL_len r h.2
    show v.category + argL (r.map (·.1)) = (mkL r).length + 1 + 1
    have h1 : v.category = 2 := h.1
    omega
theorem mkL_at (pad : Nat) : ∀ (tg : List (Value × Bool)), catOK tg → ∀ (k i : Nat) (v : Value), (mkL tg ++ List.replicate pad none)[i]? = some (some v) → (k + i, v) ∈ lv_args k (tg.map (·.1))
  | [], _, k, i, v, h => by
    have h2 : (List.replicate pad (none : Option Value))[i]? = some (some v) := h
    have h3 := List.eq_of_mem_replicate (List.mem_of_getElem? h2)
    cases h3
  | (w, false) :: r, hc, k, i, v, h => by
    have h1 : w.category = 1 := hc.1
    show (k + i, v) ∈ (k, w) :: lv_args (if w.category = 2 then k + 2 else k + 1) (r.map (·.1))
    rw [if_neg (by omega)]
    cases i with
    | zero => cases h; exact List.mem_cons_self
    | succ i =>
      have := mkL_at pad r hc.2 (k + 1) i v h
      rw [show k + (i + 1) = k + 1 + i by omega]
      exact List.mem_cons_of_mem _ this
  | (w, true) :: r, hc, k, i, v, h => by
    have h1 : w.category = 2 := hc.1
    show (k + i, v) ∈ (k, w) :: lv_args (if w.category = 2 then k + 2 else k + 1) (r.map (·.1))
    rw [if_pos h1]
    match i, h with
    | 0, h => cases h; exact List.mem_cons_self
    | 1, h => cases h
    | i + 2, h =>
      have := mkL_at pad r hc.2 (k + 2) i v h
      rw [show k + (i + 2) = k + 2 + i by omega]
      exact List.mem_cons_of_mem _ this
theorem am_of2 {d : Nat} {rf : Option Value} {hf : AH} (tg : List (Value × Bool)) (pad : Nat) (hc : catOK tg) (hy : plainName mi.1.cls = true) (hlen : (mkL tg).length + pad = mi.2.2.1)
    (kx : AW l E mi (rmOf d (bOf h hf)) (bOf h hf) (MF E (bOf h hf) rf hf) 0 (mkL tg ++ List.replicate pad none) [] h) : AM l E d mi (tg.map (·.1)) h rf hf :=
  am_of (mkL tg ++ List.replicate pad none) hy (by rw [List.length_append, List.length_replicate]; exact hlen) (by rw [mkL_len tg hc]; omega) (fun i v hv => by have := mkL_at pad tg hc 0 i v hv; rwa [Nat.zero_add] at this) kx
end GL
theorem ts_out {x : Int32} (hi : Nat) (hh : hi < 2 ^ 31) (h : ∀ j : Nat, j ≤ hi → ¬ x = nI j) : x.toInt < 0 ∨ (hi : Int) < x.toInt := by
  rcases Int.lt_or_le x.toInt 0 with q | q
  · exact Or.inl q
  · refine Or.inr (Int.not_le.mp fun q2 => ?_)
    refine h x.toInt.toNat (by omega) ?_
    have e : (nI x.toInt.toNat).toInt = x.toInt := by rw [nI_toInt (by omega)]; omega
    exact (Int32.toInt_inj.mp e).symm
theorem ne_toInt {x c : Int32} (h : ¬ x = c) : ¬ x.toInt = c.toInt := fun q => h (Int32.toInt_inj.mp q)
theorem kl_0 : Int64.ofNat ((0 : Fin 2) : Nat) = (0 : Int64) := rfl
theorem kl_1 : Int64.ofNat ((1 : Fin 2) : Nat) = (1 : Int64) := rfl
