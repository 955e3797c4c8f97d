/-! THE RULES of arrays, of what is made, of the static tables -/
section HA
variable {l : Launch} {E : EN} {mi : MI} {R : Room} {B : (Nat × Nat) × (Nat × Nat)} {Qf : QF} {pc : Nat} {L : List (Option Value)} {st : List Value} {h h' : AH}
theorem ix_of {d a j : Nat} {i : Int32} (hg : ix d h a i = some j) : (hK h a).1 = d ∧ vp_in i (hK h a).2 ∧ j = i.toNatClampNeg := by
  unfold ix at hg; split at hg
  · rename_i q
    exact ⟨q.1, fun z => z.elim q.2.1 (fun z => absurd q.2.2 (Nat.not_lt.mpr z)), (Option.some.inj hg).symm⟩
  · cases hg
theorem rI_of {d a : Nat} {i x : Int32} (hg : rI d h a i = some x) : (hK h a).1 = d ∧ vp_in i (hK h a).2 ∧ hI h a i.toNatClampNeg = x := by
  unfold rI at hg
  cases e : ix d h a i with
  | none => rw [e] at hg; cases hg
  | some j =>
    rw [e] at hg
    obtain ⟨q1, q2, rfl⟩ := ix_of e
    exact ⟨q1, q2, Option.some.inj hg⟩
theorem rJ_of {a : Nat} {i : Int32} {x : Int64} (hg : rJ h a i = some x) : (hK h a).1 = 4 ∧ vp_in i (hK h a).2 ∧ hJ h a i.toNatClampNeg = x := by
  unfold rJ at hg
  cases e : ix 4 h a i with
  | none => rw [e] at hg; cases hg
  | some j =>
    rw [e] at hg
    obtain ⟨q1, q2, rfl⟩ := ix_of e
    exact ⟨q1, q2, Option.some.inj hg⟩
theorem rR_of {a c : Nat} {i : Int32} {x : Option Nat} (hg : rR c h a i = some x) : (hK h a).1 = 10 + c ∧ vp_in i (hK h a).2 ∧ hR h a i.toNatClampNeg = x := by
  unfold rR at hg
  cases e : ix (10 + c) h a i with
  | none => rw [e] at hg; cases hg
  | some j =>
    rw [e] at hg
    obtain ⟨q1, q2, rfl⟩ := ix_of e
    exact ⟨q1, q2, Option.some.inj hg⟩
theorem RH.not4 {H : Heap} (hRH : RH E h H) {a d : Nat} (h1 : d ≠ 1) (h2 : d ≠ 4) (hk : (hK h a).1 = d) : 4 ≤ a := by
  rcases Nat.lt_or_ge a 4 with q | q
  · have e := hRH.2.2.2.2.2 a q
    rw [hk] at e
    split at e
    · exact absurd e h2
    · exact absurd e h1
  · exact q
theorem ad_lo {a : Nat} (ha : a < 4) : ad E a = eS E a := by unfold ad; rw [if_pos ha]
theorem ax_iald {a : Nat} {i x : Int32} (hd : decode mi.2.1 pc = .ok (.iaload, 1)) (hg : rI 1 h a i = some x) (kx : AW l E mi R B Qf (pc + 1) L (.int x :: st) h) : AW l E mi R B Qf pc L (.int i :: va_rf (some a) :: st) h := by
  obtain ⟨hk, hin, hx⟩ := rI_of hg
  refine ⟨kx.1, fun b1 b2 hL p e s m args below meth c H locs ls F hRH hS hl => ?_⟩
  have kk := kx.2 b1 b2 hL p e s m args below meth c H locs ls F hRH hS hl
  show W p l e R s m args below meth c H locs _ _ _ (F0 m pc ls (.int i :: .ref (ad E a) :: st.map (vr E)))
  rcases Nat.lt_or_ge a 4 with ha | ha
  · have h2 : a ≠ 2 := by
      intro q
      have e := hRH.2.2.2.2.2 a ha
      rw [if_pos q, hk] at e
      omega
    obtain ⟨e1, e2, -⟩ := hRH.2.2.2.2.1 a ha
    rw [ad_lo ha]
    refine va_ti F.1 F.2.1 (F.2.2.2.2.2.2.2.2.1.2.2.2.1 a ha h2) hS (by rw [← e1]; exact hin) (v := .int x) ?_ hd kk
    show Value.int (hI (eH E) a _) = _
    rw [← e2, hx]
  · have hrow := hRH.row ha (d := 1) (by omega) (by omega) hk
    obtain ⟨t0, ht⟩ := tys_at E (d := 1) (by decide)
    subst hx
    exact va_iald F.1 F.2.1 F.2.2.2.2.2.2.2.2.1.1 (vat_one hrow) 0 t0 (f := hI h a) rfl ht hin hd kk
theorem ax_zald {a : Nat} {i x : Int32} (hd : decode mi.2.1 pc = .ok (.baload, 1)) (hg : rI 2 h a i = some x) (kx : AW l E mi R B Qf (pc + 1) L (.int x :: st) h) : AW l E mi R B Qf pc L (.int i :: va_rf (some a) :: st) h := by
  obtain ⟨hk, hin, hx⟩ := rI_of hg
  refine ⟨kx.1, fun b1 b2 hL p e s m args below meth c H locs ls F hRH hS hl => ?_⟩
  have kk := kx.2 b1 b2 hL p e s m args below meth c H locs ls F hRH hS hl
  have hrow := hRH.row (hRH.not4 (by omega) (by omega) hk) (d := 2) (by omega) (by omega) hk
  obtain ⟨t0, ht⟩ := tys_at E (d := 2) (by decide)
  subst hx
  exact va_zald F.1 F.2.1 F.2.2.2.2.2.2.2.2.1.1 (vat_one hrow) 0 t0 (f := hI h a) rfl ht hin hd kk
theorem ax_bald {a : Nat} {i x : Int32} (hd : decode mi.2.1 pc = .ok (.baload, 1)) (hg : rI 3 h a i = some x) (kx : AW l E mi R B Qf (pc + 1) L (.int x :: st) h) : AW l E mi R B Qf pc L (.int i :: va_rf (some a) :: st) h := by
  obtain ⟨hk, hin, hx⟩ := rI_of hg
  refine ⟨kx.1, fun b1 b2 hL p e s m args below meth c H locs ls F hRH hS hl => ?_⟩
  have kk := kx.2 b1 b2 hL p e s m args below meth c H locs ls F hRH hS hl
  have hrow := hRH.row (hRH.not4 (by omega) (by omega) hk) (d := 3) (by omega) (by omega) hk
  obtain ⟨t0, ht⟩ := tys_at E (d := 3) (by decide)
  subst hx
  exact va_bald F.1 F.2.1 F.2.2.2.2.2.2.2.2.1.1 (vat_one hrow) 0 t0 (f := hI h a) rfl ht hin hd kk
theorem ax_lald {a : Nat} {i : Int32} {x : Int64} (hd : decode mi.2.1 pc = .ok (.laload, 1)) (hg : rJ h a i = some x) (kx : AW l E mi R B Qf (pc + 1) L (.long x :: st) h) : AW l E mi R B Qf pc L (.int i :: va_rf (some a) :: st) h := by
  obtain ⟨hk, hin, hx⟩ := rJ_of hg
  refine ⟨kx.1, fun b1 b2 hL p e s m args below meth c H locs ls F hRH hS hl => ?_⟩
  have kk := kx.2 b1 b2 hL p e s m args below meth c H locs ls F hRH hS hl
  show W p l e R s m args below meth c H locs _ _ _ (F0 m pc ls (.int i :: .ref (ad E a) :: st.map (vr E)))
  rcases Nat.lt_or_ge a 4 with ha | ha
  · have h2 : a = 2 := by
      have e := hRH.2.2.2.2.2 a ha
      rw [hk] at e
      split at e
      · assumption
      · omega
    subst h2
    obtain ⟨e1, -, e2⟩ := hRH.2.2.2.2.1 2 ha
    rw [ad_lo ha]
    refine va_tl F.1 F.2.1 F.2.2.2.2.2.2.2.2.1.2.2.2.2.1 hS (by rw [← e1]; exact hin) (v := .long x) ?_ hd kk
    show Value.long (hJ (eH E) 2 _) = _
    rw [← e2, hx]
  · have hrow := hRH.row ha (d := 4) (by omega) (by omega) hk
    obtain ⟨t0, ht⟩ := tys_at E (d := 4) (by decide)
    subst hx
    exact va_lald F.1 F.2.1 F.2.2.2.2.2.2.2.2.1.1 (vat_one hrow) 0 t0 (f := hJ h a) rfl ht hin hd kk
theorem arr_ref {a d : Nat} (hd : 4 < d) : arr E h a d = .inr (.inr (.inr (.inr (fun i => (hR h a i).map (ad E))))) := by
  unfold arr; rw [if_neg (by omega), if_neg (by omega)]
theorem ax_aald {a c : Nat} {C : String} {i : Int32} {x : Option Nat} (hc : 10 + c ∈ kds) (hc2 : Nat.blt c 50 = true) (hC : kty (10 + c) = .object C) (hd : decode mi.2.1 pc = .ok (.aaload, 1)) (hg : rR c h a i = some x) (kx : AW l E mi R B Qf (pc + 1) L (va_rf x :: st) h) : AW l E mi R B Qf pc L (.int i :: va_rf (some a) :: st) h := by
  obtain ⟨hk, hin, hx⟩ := rR_of hg
  have hc3 := Nat.le_of_ble_eq_true hc2
  refine ⟨kx.1, fun b1 b2 hL p e s m args below meth cc H locs ls F hRH hS hl => ?_⟩
  have kk := kx.2 b1 b2 hL p e s m args below meth cc H locs ls F hRH hS hl
  have hrow := hRH.row (hRH.not4 (by omega) (by omega) hk) (d := 10 + c) (by omega) (by omega) hk
  rw [arr_ref (by omega)] at hrow
  obtain ⟨t0, ht⟩ := tys_at E hc
  rw [hC] at ht
  refine va_aldq F.1 F.2.1 F.2.2.2.2.2.2.2.2.1.1 (vat_one hrow) 0 t0 rfl ht hin hd ?_
  rw [hx, ← vr_rf]
  exact kk
theorem ax_alen {a d : Nat} {x : Int32} (hd' : d ∈ kds) (hd2 : Nat.blt d 100 = true) (hd : decode mi.2.1 pc = .ok (.arraylength, 1)) (hg : alen d h a = some x) (kx : AW l E mi R B Qf (pc + 1) L (.int x :: st) h) : AW l E mi R B Qf pc L (va_rf (some a) :: st) h := by
  unfold alen at hg
  split at hg
  · rename_i hk
    have hx := Option.some.inj hg
    refine ⟨kx.1, fun b1 b2 hL p e s m args below meth c H locs ls F hRH hS hl => ?_⟩
    have kk := kx.2 b1 b2 hL p e s m args below meth c H locs ls F hRH hS hl
    show W p l e R s m args below meth c H locs _ _ _ (F0 m pc ls (.ref (ad E a) :: st.map (vr E)))
    rcases Nat.lt_or_ge a 4 with ha | ha
    · obtain ⟨e1, -, -⟩ := hRH.2.2.2.2.1 a ha
      rw [ad_lo ha]
      by_cases h2 : a = 2
      · subst h2
        exact va_tlen F.1 F.2.1 F.2.2.2.2.2.2.2.2.1.2.2.2.2.1 hS (by rw [← e1]; exact hx) hd kk
      · exact va_tlen F.1 F.2.1 (F.2.2.2.2.2.2.2.2.1.2.2.2.1 a ha h2) hS (by rw [← e1]; exact hx) hd kk
    · have h0 : 0 < d := by
        rcases Nat.eq_zero_or_pos d with q | q
        · subst q; exact absurd hd' (by decide)
        · exact q
      have hrow := hRH.row ha (d := d) h0 (Nat.le_of_ble_eq_true hd2) hk
      obtain ⟨t0, ht⟩ := tys_at E hd'
      exact va_alen F.1 F.2.1 F.2.2.2.2.2.2.2.2.1.1 (vat_one hrow) 0 t0 rfl ht hx hd kk
  · cases hg
theorem cel_arr {a d : Nat} (hk : (hK h a).1 = d) (hd : d < 100) : cel E h a = .inl (eA E d, (hK h a).2, arr E h a d) := by
  unfold cel; rw [if_pos (by omega), hk]
theorem ax_iast {a : Nat} {i x : Int32} (hd : decode mi.2.1 pc = .ok (.iastore, 1)) (hg : wI h a i x = some h') (kx : AW l E mi R B Qf (pc + 1) L st h') : AW l E mi R B Qf pc L (.int x :: .int i :: va_rf (some a) :: st) h := by
  unfold wI at hg
  split at hg
  · rename_i h4
    cases eq : ix 1 h a i with
    | none => rw [eq] at hg; cases hg
    | some j =>
      rw [eq] at hg
      cases hg
      obtain ⟨hk, hin, rfl⟩ := ix_of eq
      refine ⟨kx.1, fun b1 b2 hL p e s m args below meth c H locs ls F hRH hS hl => ?_⟩
      have hrow := hRH.row h4 (d := 1) (by omega) (by omega) hk
      obtain ⟨t0, ht⟩ := tys_at E (d := 1) (by decide)
      refine W.iast F.1 F.2.1 hrow ((F.2.2.2.2.2.2.2.2.1.1.2 t0 _ ht).1 (hK h a).2 (fun j => .int (hI h a j))) (fun q => by cases q) (by show ¬ (i < 0 ∨ (arrV _ _ _).slots.size ≤ _); rw [arrV_size]; exact hin) rfl rfl hd fun H1 e1 z oq => ?_
      refine kx.2 b1 b2 hL p e s m args below meth c H1 _ ls F (hRH.upd h4 rfl (fun _ => rfl) (fun b hb => ⟨uI_row hb, rfl, rfl⟩) z oq ?_) (hS.put z oq (ad_fr h4)) hl
      rw [cel_arr (h := uI h a i.toNatClampNeg x) (d := 1) hk (by omega)]
      show H1[ad E a]? = some (arrV (eA E 1) (hK h a).2 (fun j => .int (hI (uI h a i.toNatClampNeg x) a j)))
      rw [e1]
      show some ((arrV (eA E 1) (hK h a).2 (fun j => .int (hI h a j))).setSlot _ _) = _
      rw [arrV_store]
      congr 2
      funext q
      show updV _ _ _ q = Value.int (hI (uI h a i.toNatClampNeg x) a q)
      rw [hI_uI]
      by_cases hq : q = i.toNatClampNeg
      · simp [updV, hq]
      · simp [updV, hq]
  · cases hg
theorem ax_zast {a : Nat} {i x : Int32} (hd : decode mi.2.1 pc = .ok (.bastore, 1)) (hg : wZ h a i x = some h') (kx : AW l E mi R B Qf (pc + 1) L st h') : AW l E mi R B Qf pc L (.int x :: .int i :: va_rf (some a) :: st) h := by
  unfold wZ at hg
  split at hg
  · rename_i h4
    cases eq : ix 2 h a i with
    | none => rw [eq] at hg; cases hg
    | some j =>
      rw [eq] at hg
      cases hg
      obtain ⟨hk, hin, rfl⟩ := ix_of eq
      refine ⟨kx.1, fun b1 b2 hL p e s m args below meth c H locs ls F hRH hS hl => ?_⟩
      have hrow := hRH.row h4 (d := 2) (by omega) (by omega) hk
      obtain ⟨t0, ht⟩ := tys_at E (d := 2) (by decide)
      refine W.zast F.1 F.2.1 hrow ((F.2.2.2.2.2.2.2.2.1.1.2 t0 _ ht).1 (hK h a).2 (fun j => .int (hI h a j))) (fun q => by cases q) (by show ¬ (i < 0 ∨ (arrV _ _ _).slots.size ≤ _); rw [arrV_size]; exact hin) rfl rfl hd fun H1 e1 z oq => ?_
      refine kx.2 b1 b2 hL p e s m args below meth c H1 _ ls F (hRH.upd h4 rfl (fun _ => rfl) (fun b hb => ⟨uI_row hb, rfl, rfl⟩) z oq ?_) (hS.put z oq (ad_fr h4)) hl
      rw [cel_arr (h := uI h a i.toNatClampNeg (x &&& 1)) (d := 2) hk (by omega)]
      show H1[ad E a]? = some (arrV (eA E 2) (hK h a).2 (fun j => .int (hI (uI h a i.toNatClampNeg (x &&& 1)) a j)))
      rw [e1]
      show some ((arrV (eA E 2) (hK h a).2 (fun j => .int (hI h a j))).setSlot _ (.int (x &&& 1))) = _
      rw [arrV_store]
      congr 2
      funext q
      show updV _ _ _ q = Value.int (hI (uI h a i.toNatClampNeg (x &&& 1)) a q)
      rw [hI_uI]
      by_cases hq : q = i.toNatClampNeg
      · simp [updV, hq]
      · simp [updV, hq]
  · cases hg
theorem ax_bast {a : Nat} {i x : Int32} (hd : decode mi.2.1 pc = .ok (.bastore, 1)) (hg : wB h a i x = some h') (kx : AW l E mi R B Qf (pc + 1) L st h') : AW l E mi R B Qf pc L (.int x :: .int i :: va_rf (some a) :: st) h := by
  unfold wB at hg
  split at hg
  · rename_i h4
    cases eq : ix 3 h a i with
    | none => rw [eq] at hg; cases hg
    | some j =>
      rw [eq] at hg
      cases hg
      obtain ⟨hk, hin, rfl⟩ := ix_of eq
      refine ⟨kx.1, fun b1 b2 hL p e s m args below meth c H locs ls F hRH hS hl => ?_⟩
      have hrow := hRH.row h4 (d := 3) (by omega) (by omega) hk
      obtain ⟨t0, ht⟩ := tys_at E (d := 3) (by decide)
      refine W.bast F.1 F.2.1 hrow ((F.2.2.2.2.2.2.2.2.1.1.2 t0 _ ht).1 (hK h a).2 (fun j => .int (hI h a j))) (fun q => by cases q) (by show ¬ (i < 0 ∨ (arrV _ _ _).slots.size ≤ _); rw [arrV_size]; exact hin) rfl rfl hd fun H1 e1 z oq => ?_
      refine kx.2 b1 b2 hL p e s m args below meth c H1 _ ls F (hRH.upd h4 rfl (fun _ => rfl) (fun b hb => ⟨uI_row hb, rfl, rfl⟩) z oq ?_) (hS.put z oq (ad_fr h4)) hl
      rw [cel_arr (h := uI h a i.toNatClampNeg x.toInt8.toInt32) (d := 3) hk (by omega)]
      show H1[ad E a]? = some (arrV (eA E 3) (hK h a).2 (fun j => .int (hI (uI h a i.toNatClampNeg x.toInt8.toInt32) a j)))
      rw [e1]
      show some ((arrV (eA E 3) (hK h a).2 (fun j => .int (hI h a j))).setSlot _ (.int x.toInt8.toInt32)) = _
      rw [arrV_store]
      congr 2
      funext q
      show updV _ _ _ q = Value.int (hI (uI h a i.toNatClampNeg x.toInt8.toInt32) a q)
      rw [hI_uI]
      by_cases hq : q = i.toNatClampNeg
      · simp [updV, hq]
      · simp [updV, hq]
  · cases hg
theorem ax_last {a : Nat} {i : Int32} {x : Int64} (hd : decode mi.2.1 pc = .ok (.lastore, 1)) (hg : wJ h a i x = some h') (kx : AW l E mi R B Qf (pc + 1) L st h') : AW l E mi R B Qf pc L (.long x :: .int i :: va_rf (some a) :: st) h := by
  unfold wJ at hg
  split at hg
  · rename_i h4
    cases eq : ix 4 h a i with
    | none => rw [eq] at hg; cases hg
    | some j =>
      rw [eq] at hg
      cases hg
      obtain ⟨hk, hin, rfl⟩ := ix_of eq
      refine ⟨kx.1, fun b1 b2 hL p e s m args below meth c H locs ls F hRH hS hl => ?_⟩
      have hrow := hRH.row h4 (d := 4) (by omega) (by omega) hk
      obtain ⟨t0, ht⟩ := tys_at E (d := 4) (by decide)
      refine W.last F.1 F.2.1 hrow ((F.2.2.2.2.2.2.2.2.1.1.2 t0 _ ht).1 (hK h a).2 (fun j => .long (hJ h a j))) (fun q => by cases q) (by show ¬ (i < 0 ∨ (arrV _ _ _).slots.size ≤ _); rw [arrV_size]; exact hin) rfl rfl hd fun H1 e1 z oq => ?_
      refine kx.2 b1 b2 hL p e s m args below meth c H1 _ ls F (hRH.upd h4 rfl (fun _ => rfl) (fun b hb => ⟨rfl, uJ_row hb, rfl⟩) z oq ?_) (hS.put z oq (ad_fr h4)) hl
      rw [cel_arr (h := uJ h a i.toNatClampNeg x) (d := 4) hk (by omega)]
      show H1[ad E a]? = some (arrV (eA E 4) (hK h a).2 (fun j => .long (hJ (uJ h a i.toNatClampNeg x) a j)))
      rw [e1]
      show some ((arrV (eA E 4) (hK h a).2 (fun j => .long (hJ h a j))).setSlot _ _) = _
      rw [arrV_store]
      congr 2
      funext q
      show updV _ _ _ q = Value.long (hJ (uJ h a i.toNatClampNeg x) a q)
      rw [hJ_uJ]
      by_cases hq : q = i.toNatClampNeg
      · simp [updV, hq]
      · simp [updV, hq]
  · cases hg
theorem ax_aast {a c v : Nat} {C : String} {T : u_T} {N : Nat} {i : Int32} (hc : 10 + c ∈ kds) (hc2 : Nat.blt c 50 = true) (hC : kty (10 + c) = .object C) (hcl : zcl[c]? = some (C, T, N)) (hd : decode mi.2.1 pc = .ok (.aastore, 1)) (hg : wR c h a i (some v) = some h') (kx : AW l E mi R B Qf (pc + 1) L st h') : AW l E mi R B Qf pc L (va_rf (some v) :: .int i :: va_rf (some a) :: st) h := by
  unfold wR at hg
  split at hg
  · rename_i hv0
    have hv : hK h v = (100 + c, 0) := hv0 v rfl
    cases eq : ix (10 + c) h a i with
    | none => rw [eq] at hg; cases hg
    | some j =>
      rw [eq] at hg
      cases hg
      obtain ⟨hk, hin, rfl⟩ := ix_of eq
      have hc3 := Nat.le_of_ble_eq_true hc2
      refine ⟨kx.1, fun b1 b2 hL p e s m args below meth cc H locs ls F hRH hS hl => ?_⟩
      have h4 := hRH.not4 (by omega) (by omega) hk
      have hrow := hRH.row h4 (d := 10 + c) (by omega) (by omega) hk
      rw [arr_ref (by omega)] at hrow
      obtain ⟨t0, ht⟩ := tys_at E hc
      rw [hC] at ht
      have hlt : i.toNatClampNeg < (hK h a).2 := Nat.not_le.mp fun q => hin (Or.inr q)
      have h0 : ¬ i < 0 := fun q => hin (Or.inl q)
      obtain ⟨r', hr', cellV, g1, g2, g3, -⟩ := hRH.obj hv
      have hKK := F.2.2.2.2.2.2.2.2.1.1
      have hcls := (hKK.1 c _ hcl).2
      obtain ⟨kA, comp, k1, k2, k3, -⟩ := (hKK.2 t0 _ ht).2
      have hcomp : comp = (eD E).1 c := Option.some.inj (k3.symm.trans hcls.1)
      subst hcomp
      obtain ⟨kC, hkC, -⟩ := hcls.2
      refine W.aast F.1 F.2.1 hrow (fun q h => by cases h) (fun h => by cases h) k1 k2 rfl hkC ⟨h0, by show _ < (arrV _ _ _).slots.size; rw [arrV_size]; exact hlt⟩ g1 (fun q h => by rw [g3] at h; cases h) (by rw [g2]; exact hkC) (by rw [g2]; exact va_assign hcls) rfl rfl hd fun H1 e1 z oq => ?_
      refine kx.2 b1 b2 hL p e s m args below meth cc H1 _ ls F (hRH.upd h4 rfl (fun _ => rfl) (fun b hb => ⟨rfl, rfl, uR_row hb⟩) z oq ?_) (hS.put z oq (ad_fr h4)) hl
      rw [cel_arr (h := uR h a i.toNatClampNeg (some v)) (d := 10 + c) hk (by omega), arr_ref (by omega)]
      show H1[ad E a]? = some (arrV (eA E (10 + c)) (hK h a).2 (fun j => va_rf ((hR (uR h a i.toNatClampNeg (some v)) a j).map (ad E))))
      rw [e1]
      show some ((arrV (eA E (10 + c)) (hK h a).2 (fun j => va_rf ((hR h a j).map (ad E)))).setSlot _ _) = _
      rw [arrV_store]
      congr 2
      funext q
      show updV _ _ _ q = va_rf ((hR (uR h a i.toNatClampNeg (some v)) a q).map (ad E))
      rw [hR_uR]
      by_cases hq : q = i.toNatClampNeg
      · simp [updV, hq, va_rf]
      · simp [updV, hq]
  · cases hg
/-- a new cell stands -/
theorem RH.grow {H H1 : Heap} {q : Nat × Nat} {n : Nat} (hRH : RH E h H) (z : H1.size = H.size + 1) (oq : ∀ x : Nat, x < H.size → H1[x]? = H[x]?) (hat : va_at (eD E) zcl (ad E (hM h), cel E (uN' h q n) (hM h)) H1) : RH E (uN' h q n) H1 := by
  obtain ⟨g1, g2, g3, g4, g5, g6⟩ := hRH
  have hne : ∀ b, b ≠ hM h → hK (uN' h q n) b = hK h b ∧ hI (uN' h q n) b = hI h b ∧ hJ (uN' h q n) b = hJ h b ∧ hR (uN' h q n) b = hR h b := by
    intro b hb
    have hb' : ¬ b = h.1 := hb
    refine ⟨?_, ?_, ?_, ?_⟩
    · show (if b = h.1 then q else _) = _; rw [if_neg hb']; rfl
    · funext y; show (if b = h.1 then (0 : Int32) else _) = _; rw [if_neg hb']; rfl
    · funext y; show (if b = h.1 then (0 : Int64) else _) = _; rw [if_neg hb']; rfl
    · funext y; show (if b = h.1 then (none : Option Nat) else _) = _; rw [if_neg hb']; rfl
  have hm : hM (uN' h q n) = hM h + 1 := rfl
  refine ⟨by omega, by rw [z, g2, hm]; omega, fun b b4 bM => ?_, fun b bM => ?_, fun b b4 => ?_, fun b b4 => ?_⟩
  · by_cases e : b = hM h
    · subst e; exact hat
    · obtain ⟨e0, e1, e2, e3⟩ := hne b e
      rw [cel_eq e0 e1 e2 e3]
      have h3 := g3 b b4 (by omega)
      exact h3.kept (oq _ (by rw [g2]; show ad E b < _; rw [ad_ge b4]; omega))
  · rw [(hne b (by omega)).1]; exact g4 b (by omega)
  · obtain ⟨e0, e1, e2, -⟩ := hne b (by omega)
    rw [e0, e1, e2]
    exact g5 b b4
  · rw [(hne b (by omega)).1]; exact g6 b b4
theorem RH.next {H : Heap} (hRH : RH E h H) : H.size = ad E (hM h) := by rw [hRH.2.1, ad_ge hRH.1]
theorem va_S.grow {A : Nat → Prop} {H0 H H1 : Heap} {locs : List Loc} (hS : va_S A H0 H locs) (z : H1.size = H.size + 1) (oq : ∀ x : Nat, x < H.size → H1[x]? = H[x]?) : va_S A H0 H1 locs := ⟨Nat.le_trans hS.1 (by omega), fun x h1 h2 => (oq x (Nat.lt_of_lt_of_le h1 hS.1)).trans (hS.2.1 x h1 h2), hS.2.2⟩
theorem ax_new {idx ci : Nat} {C : String} {T : u_T} {N : Nat} (hcl : zcl[ci]? = some (C, T, N)) (hci : Nat.blt ci 13 = true) (hw : Cond.classLink mi.1.cls idx C ∈ zgw) (hd : decode mi.2.1 pc = .ok (.new idx, 3)) (kx : AW l E mi R B Qf (pc + 3) L (va_rf (some (hM h)) :: st) (nO ci h)) : AW l E mi R B Qf pc L st h := by
  obtain ⟨i1, i2, i3, i4, i5, i6, i7⟩ := zall ci _ hcl
  have i5 : znf ci = N := i5
  have hm : hM (nO ci h) = hM h + 1 := rfl
  have hz : hZ (nO ci h) = hZ h + znf ci := rfl
  obtain ⟨⟨c1, c2, c3, c4⟩, kx⟩ := kx
  refine ⟨⟨by omega, by omega, c3, c4⟩, fun b1 b2 hL p e s m args below meth c H locs ls F hRH hS hl => ?_⟩
  have hts := F.2.2.2.2.2.2.2.1
  have hKK := F.2.2.2.2.2.2.2.2.1.1
  have hKn := hKK.1 ci _ hcl
  refine W.newcK F.1 F.2.1 F.2.2.2.2.2.1 (hts _ hw) (hts _ i6) (hts _ i7) rfl hd (by omega) (by show hZ h - B.1.2 + N ≤ _; omega) hKn.2.1 rfl fun H1 kC hkC e1 z1 o1 => ?_
  have hR1 : RH E (nO ci h) H1 := by
    refine hRH.grow z1 o1 ?_
    have ec : cel E (nO ci h) (hM h) = .inr (ci, fls E (nO ci h) (hM h) ci) := by
      have ek : hK (nO ci h) (hM h) = (100 + ci, 0) := by show (if h.1 = h.1 then (100 + ci, 0) else _) = _; rw [if_pos rfl]
      unfold cel
      rw [ek]
      simp only
      rw [if_neg (by omega), show 100 + ci - 100 = ci by omega]
    show va_at (eD E) zcl (ad E (hM h), cel E (nO ci h) (hM h)) H1
    rw [ec, ← hRH.next]
    refine ⟨_, hcl, (u_born (zty ci) hts i1 hKn hkC e1 i3).to (fun j hj => ?_)⟩
    have hj2 : j < znf ci := by rw [i5]; exact hj
    rw [vpV_fls hj2]
    obtain ⟨s0, s1, s2, s3, s4⟩ := zso_int ci (by have := Nat.le_of_ble_eq_true hci; omega) j hj2
    have eI : hI (nO ci h) (hM h) j = 0 := by show (if h.1 = h.1 then (0 : Int32) else _) = _; rw [if_pos rfl]
    have eJ : hJ (nO ci h) (hM h) j = 0 := by show (if h.1 = h.1 then (0 : Int64) else _) = _; rw [if_pos rfl]
    have eR : hR (nO ci h) (hM h) j = none := by show (if h.1 = h.1 then (none : Option Nat) else _) = _; rw [if_pos rfl]
    rcases (show zso ci j = 0 ∨ zso ci j = 1 ∨ zso ci j = 2 ∨ zso ci j = 3 by omega) with q | q | q | q
    · rw [s0 q, q]; show Value.int 0 = Value.int (hI (nO ci h) (hM h) j); rw [eI]
    · rw [s1 q, q]; show Value.int 0 = Value.int (hI (nO ci h) (hM h) j); rw [eI]
    · rw [s2 q, q]; show Value.long 0 = Value.long (hJ (nO ci h) (hM h) j); rw [eJ]
    · have s3 := s3 q
      rw [q]
      show defaultValue (zty ci j) = va_rf ((hR (nO ci h) (hM h) j).map (ad E))
      rw [eR]
      generalize zty ci j = t at s3
      cases t <;> first | rfl | (exfalso; revert s3; decide)
  have kk := kx (by omega) (by omega) hL p e s m args below meth c H1 locs ls F hR1 (hS.grow z1 o1) hl
  rw [show hM (nO ci h) - B.1.1 = hM h - B.1.1 + 1 by omega, show hZ (nO ci h) - B.1.2 = hZ h - B.1.2 + N by omega] at kk
  rw [show H.size = ad E (hM h) from hRH.next]
  exact kk
end HA
