/-! THE RULES that read and write cells -/
theorem vat_one {D : va_G} {cl : List vw_C} {q : Nat × va_E} {H : Heap} (h : va_at D cl q H) : va_P D cl [q] H := by
  intro k x hx
  have hk : k < 1 := (List.getElem?_eq_some_iff.mp hx).1
  rw [show k = 0 by omega] at hx
  cases hx
  exact h
theorem vpV_fls {E : EN} {h : AH} {a c j : Nat} (hj : j < znf c) : vp_V (fls E h a c) j = fvl E h a (zso c j) j := by
  unfold vp_V fls
  rw [List.getD_eq_getElem?_getD, List.getElem?_map, List.getElem?_range hj]
  rfl
theorem fls_at {E : EN} {h : AH} {a c j : Nat} (hj : j < znf c) : (fls E h a c)[j]? = some (fvl E h a (zso c j) j) := by
  unfold fls
  rw [List.getElem?_map, List.getElem?_range hj]
  rfl
theorem fls_len {E : EN} {h : AH} {a c : Nat} : (fls E h a c).length = znf c := by simp [fls]
theorem RH.lo {E : EN} {h : AH} {H : Heap} (hR : RH E h H) {a c : Nat} (hk : hK h a = (100 + c, 0)) : 4 ≤ a ∧ a < hM h := by
  obtain ⟨h1, h2, h3, h4, h5, h6⟩ := hR
  constructor
  · rcases Nat.lt_or_ge a 4 with q | q
    · have e := h6 a q
      rw [hk] at e
      simp only at e
      split at e <;> omega
    · exact q
  · rcases Nat.lt_or_ge a (hM h) with q | q
    · exact q
    · have e := h4 a q
      rw [hk] at e
      have := congrArg Prod.fst e
      simp at this
theorem RH.ltM {E : EN} {h : AH} {H : Heap} (hR : RH E h H) {a d : Nat} (hd : 0 < d) (hk : (hK h a).1 = d) : a < hM h := by
  obtain ⟨h1, h2, h3, h4, h5, h6⟩ := hR
  rcases Nat.lt_or_ge a (hM h) with q | q
  · exact q
  · have e := h4 a q
    rw [e] at hk
    simp only at hk
    omega
theorem RH.obj {E : EN} {h : AH} {H : Heap} (hR : RH E h H) {a c : Nat} (hk : hK h a = (100 + c, 0)) : va_at (eD E) zcl (ad E a, .inr (c, fls E h a c)) H := by
  obtain ⟨q1, q2⟩ := hR.lo hk
  have h3 := hR.2.2.1 a q1 q2
  have e : cel E h a = .inr (c, fls E h a c) := by
    unfold cel
    rw [hk]
    simp only
    rw [if_neg (by omega), show 100 + c - 100 = c by omega]
  rw [e] at h3
  exact h3
theorem RH.row {E : EN} {h : AH} {H : Heap} (hR : RH E h H) {a d : Nat} (h4 : 4 ≤ a) (hd : 0 < d) (hd2 : d < 100) (hk : (hK h a).1 = d) : va_at (eD E) zcl (ad E a, .inl (eA E d, (hK h a).2, arr E h a d)) H := by
  have q2 := hR.ltM hd hk
  have h3 := hR.2.2.1 a h4 q2
  have e : cel E h a = .inl (eA E d, (hK h a).2, arr E h a d) := by
    unfold cel
    rw [if_pos (by omega), hk]
  rw [e] at h3
  exact h3
theorem cel_eq {E : EN} {h h' : AH} {b : Nat} (h0 : hK h' b = hK h b) (h1 : hI h' b = hI h b) (h2 : hJ h' b = hJ h b) (h3 : hR h' b = hR h b) : cel E h' b = cel E h b := by
  unfold cel arr fls fvl
  rw [h0, h1, h2, h3]
/-- a cell of our own has changed its contents -/
theorem RH.upd {E : EN} {h h' : AH} {H H1 : Heap} {a : Nat} (hRR : RH E h H) (h4 : 4 ≤ a) (hm : hM h' = hM h) (hk : ∀ b, hK h' b = hK h b) (hb : ∀ b, b ≠ a → hI h' b = hI h b ∧ hJ h' b = hJ h b ∧ hR h' b = hR h b) (z : H1.size = H.size) (oq : ∀ q : Nat, q ≠ ad E a → H1[q]? = H[q]?) (hat : va_at (eD E) zcl (ad E a, cel E h' a) H1) : RH E h' H1 := by
  obtain ⟨g1, g2, g3, g4, g5, g6⟩ := hRR
  refine ⟨by rw [hm]; exact g1, by rw [z, hm]; exact g2, fun b b4 bM => ?_, fun b bM => by rw [hk]; exact g4 b (by rw [← hm]; exact bM), fun b b4 => ?_, fun b b4 => by rw [hk]; exact g6 b b4⟩
  · by_cases e : b = a
    · subst e; exact hat
    · obtain ⟨e1, e2, e3⟩ := hb b e
      rw [cel_eq (hk b) e1 e2 e3]
      exact (g3 b b4 (by rw [← hm]; exact bM)).kept (oq _ (fun z2 => e (ad_inj b4 h4 z2)))
  · obtain ⟨e1, e2, -⟩ := hb b (by omega)
    rw [hk, e1, e2]
    exact g5 b b4
/-- which field an entry of a class's pool names -/
def FL (own : String) (idx ci k : Nat) : Prop := ∃ r : vw_C, zcl[ci]? = some r ∧ k < r.2.2 ∧ (Cond.fieldLink own idx r.1 (r.2.1 k).2.1 (r.2.1 k).2.2.1 ∈ zgw ∨ ∃ host, Cond.fieldLinkNest own idx r.1 (r.2.1 k).2.1 (r.2.1 k).2.2.1 host ∈ znw)
/-- the same, of one that may be written -/
def FW (own nm : String) (idx ci k : Nat) : Prop := ∃ r : vw_C, zcl[ci]? = some r ∧ k < r.2.2 ∧ (((r.2.1 k).2.2.2 = false ∧ (Cond.fieldLink own idx r.1 (r.2.1 k).2.1 (r.2.1 k).2.2.1 ∈ zgw ∨ ∃ host, Cond.fieldLinkNest own idx r.1 (r.2.1 k).2.1 (r.2.1 k).2.2.1 host ∈ znw)) ∨
  ((r.2.1 k).2.2.2 = true ∧ nm = "<init>" ∧ r.1 = own ∧ Cond.fieldLink own idx r.1 (r.2.1 k).2.1 (r.2.1 k).2.2.1 ∈ zgw))
section HR
variable {p : Program} {l : Launch} {e : Env} {R : Room} {s : State} {m : MethodId} {args : Array Value} {below : List Frame} {meth : Method} {c : Code} {H : Heap} {locs : List Loc} {cells slots : Nat} {Q : State → Prop} {E : EN} {mi : MI} {h h' : AH} {pc : Nat} {ls : Array Slot} {rest : List Value}
theorem wx_get {idx ci k a : Nat} (F : FX E mi p s m args meth c) (hRH : RH E h H) (fl : FL mi.1.cls idx ci k) (hk : hK h a = (100 + ci, 0)) (hd : decode mi.2.1 pc = .ok (.getfield idx, 3)) (kk : W p l e R s m args below meth c H locs cells slots Q (F0 m (pc + 3) ls (fvl E h a (zso ci k) k :: rest))) : W p l e R s m args below meth c H locs cells slots Q (F0 m pc ls (.ref (ad E a) :: rest)) := by
  obtain ⟨r, hc, hkN, hlk⟩ := fl
  obtain ⟨i1, i2, i3, i4, i5, -⟩ := zall ci r hc
  obtain ⟨C, T, N⟩ := r
  have hP := vat_one (hRH.obj hk)
  have hv : (fls E h a ci)[k]? = some (fvl E h a (zso ci k) k) := fls_at (by rw [i5]; exact hkN)
  have ho : (T k).1 = C := i4 k hkN
  rcases hlk with hlk | ⟨host, hlk⟩
  · exact va_get F.1 F.2.1 F.2.2.2.2.2.2.2.1 i1 F.2.2.2.2.2.1 F.2.2.2.2.2.2.2.2.1.1 hP 0 rfl hc k hkN (F.2.2.2.2.2.2.2.1 _ hlk) (fun x hx => by rw [ho] at hx; exact hx) hv hd kk
  · exact va_getN F.1 F.2.1 F.2.2.2.2.2.2.2.1 i1 F.2.2.2.2.2.1 F.2.2.2.2.2.2.2.2.1.1 hP 0 rfl hc k hkN (va_Nw.use rfl (F.2.2.2.2.2.2.2.2.1.2.1 _ hlk)) (fun x hx => by rw [ho] at hx; exact hx) hv hd kk
theorem wx_put {idx ci k a : Nat} {v : Value} (F : FX E mi p s m args meth c) (hRH : RH E h H) (hS : va_S (fr E) s.heap H locs) (fw : FW mi.1.cls mi.1.name idx ci k) (hk : hK h a = (100 + ci, 0)) (hn : narrow (zty ci k) v = v) (hfit : fits (zty ci k) v = true)
    (hm : hM h' = hM h) (hk' : ∀ b, hK h' b = hK h b) (hb : ∀ b, b ≠ a → hI h' b = hI h b ∧ hJ h' b = hJ h b ∧ hR h' b = hR h b) (hv : ∀ j, j < znf ci → fvl E h' a (zso ci j) j = if j = k then v else fvl E h a (zso ci j) j)
    (hd : decode mi.2.1 pc = .ok (.putfield idx, 3)) (kk : ∀ (H1 : Heap) (locs1 : List Loc), RH E h' H1 → va_S (fr E) s.heap H1 locs1 → W p l e R s m args below meth c H1 locs1 cells slots Q (F0 m (pc + 3) ls rest)) : W p l e R s m args below meth c H locs cells slots Q (F0 m pc ls (v :: .ref (ad E a) :: rest)) := by
  obtain ⟨r, hc, hkN, hlk⟩ := fw
  obtain ⟨i1, i2, i3, i4, i5, -⟩ := zall ci r hc
  obtain ⟨C, T, N⟩ := r
  have hts := F.2.2.2.2.2.2.2.1
  have hK := F.2.2.2.2.2.2.2.2.1.1
  have hown := F.2.2.2.2.2.1
  have ho : (T k).1 = C := i4 k hkN
  have h4 := (hRH.lo hk).1
  obtain ⟨r, h1, cell, q1, q2, q3, q4⟩ := hRH.obj hk
  have hr : r = (C, T, N) := Option.some.inj (h1.symm.trans hc)
  subst hr
  have hap := va_apart (own := mi.1.cls) hts i1 (zty ci) i3 i2 hK hc
  obtain ⟨hSl, hfc, kC, hkC, hkind⟩ := hK.1 ci _ hc
  obtain ⟨cf, kf, fi, f, hi, hsl⟩ := hSl k hkN
  have hst := (u_facts hfc hkC (u_lays hts i1 hkN) hi).1
  have hd2 := i3 k hkN
  have fin : ∀ H' : Heap, H'[ad E a]? = some (cell.setSlot (((eD E).2 ci) k) v) → H'.size = H.size → (∀ q, q ≠ ad E a → H'[q]? = H[q]?) → RH E h' H' := by
    intro H' e1 e2 e3
    refine hRH.upd h4 hm hk' hb e2 e3 ?_
    have ec : cel E h' a = .inr (ci, fls E h' a ci) := by
      unfold cel
      rw [hk', hk]
      simp only
      rw [if_neg (by omega), show 100 + ci - 100 = ci by omega]
    rw [ec]
    refine ⟨_, hc, t_OB.to (V := updV (vp_V (fls E h a ci)) k v) ⟨_, e1, q2, q3, t_set q4 hap hkN v⟩ (fun j hj => ?_)⟩
    have hj2 : j < znf ci := by rw [i5]; exact hj
    rw [vpV_fls hj2, hv j hj2]
    unfold updV
    rw [vpV_fls hj2]
  rcases hlk with ⟨hf, hlk⟩ | ⟨hf, hnm, hC, hlk⟩
  · have hlay := hts _ (i1 _ (u_in_lay hkN))
    unfold u_lay at hlay
    rw [if_neg (by rw [hf]; decide)] at hlay
    have h6 := u_store hfc hkC hkind hlay hi hd2 hn hfit
    rcases hlk with hlk | ⟨host, hlk⟩
    · refine W.putK F.1 F.2.1 (f := f) ⟨hown, hts _ hlk, ⟨_, _, _, by rw [ho] at hi; exact hi⟩, hst⟩ (by rw [q2]; exact h6) q1 q3 (by rw [hsl]; exact k2_hasslot (q4 k hkN)) rfl rfl hd fun H' e1 e2 e3 => ?_
      rw [hsl] at e1 ⊢
      exact kk H' _ (fin H' e1 e2 e3) (hS.put e2 e3 (ad_fr h4))
    · refine va_WputK F.1 F.2.1 (f := f) hown (va_Nw.use rfl (F.2.2.2.2.2.2.2.2.1.2.1 _ hlk)) (by rw [ho] at hi; exact hi) hst (by rw [q2]; exact h6) q1 q3 (by rw [hsl]; exact k2_hasslot (q4 k hkN)) rfl rfl hd fun H' e1 e2 e3 => ?_
      rw [hsl] at e1 ⊢
      exact kk H' _ (fin H' e1 e2 e3) (hS.put e2 e3 (ad_fr h4))
  · have hlay := hts _ (i1 _ (u_in_lay hkN))
    unfold u_lay at hlay
    rw [if_pos hf] at hlay
    have hcf : m.cls = cf := by
      obtain ⟨_, _, c', _, _, _, -, -, hf', -, -, -, hown2, -⟩ := Cond.laysFinal_spec hlay
      have e1 : c' = cf := by have := hi.symm.trans hf'; simp at this; exact this.1.symm
      have ho2 : (T k).1 = mi.1.cls := ho.trans hC
      rw [ho2] at hown2
      rw [← e1]; exact Option.some.inj (hown.symm.trans hown2)
    have h6 := u_fits hfc hkC hkind (Or.inr hlay) hi hd2 hn hfit
    refine W.putFinK F.1 F.2.1 hown (hts _ hlk) (by rw [ho] at hi; exact hi) hst hcf (F.2.2.2.2.2.2.1 hnm) (by rw [q2]; exact h6) q1 q3 (by rw [hsl]; exact k2_hasslot (q4 k hkN)) rfl rfl hd fun H' e1 e2 e3 => ?_
    rw [hsl] at e1 ⊢
    exact kk H' _ (fin H' e1 e2 e3) (hS.put e2 e3 (ad_fr h4))
end HR
section HX
variable {l : Launch} {E : EN} {mi : MI} {R : Room} {B : (Nat × Nat) × (Nat × Nat)} {Qf : QF} {pc : Nat} {L : List (Option Value)} {st : List Value} {h h' : AH}
theorem gI_of {c a k : Nat} {x : Int32} (hg : gI c h a k = some x) : hK h a = (100 + c, 0) ∧ hI h a k = x := by
  unfold gI at hg; split at hg
  · exact ⟨by assumption, Option.some.inj hg⟩
  · cases hg
theorem gJ_of {c a k : Nat} {x : Int64} (hg : gJ c h a k = some x) : hK h a = (100 + c, 0) ∧ hJ h a k = x := by
  unfold gJ at hg; split at hg
  · exact ⟨by assumption, Option.some.inj hg⟩
  · cases hg
theorem gR_of {c a k : Nat} {x : Option Nat} (hg : gR c h a k = some x) : hK h a = (100 + c, 0) ∧ hR h a k = x := by
  unfold gR at hg; split at hg
  · exact ⟨by assumption, Option.some.inj hg⟩
  · cases hg
theorem ax_getI {idx ci k a : Nat} {x : Int32} (fl : FL mi.1.cls idx ci k) (hs : Nat.ble (zso ci k) 1 = true) (hd : decode mi.2.1 pc = .ok (.getfield idx, 3)) (hg : gI ci h a k = some x) (kx : AW l E mi R B Qf (pc + 3) L (.int x :: st) h) : AW l E mi R B Qf pc L (va_rf (some a) :: st) h := by
  obtain ⟨hk, hx⟩ := gI_of hg
  refine ⟨kx.1, fun b1 b2 hL p e s m args below meth c H locs ls F hRH hS hl => wx_get F hRH fl hk hd ?_⟩
  have ev : fvl E h a (zso ci k) k = .int x := by
    unfold fvl
    have := Nat.le_of_ble_eq_true hs
    split
    · omega
    · omega
    · rw [hx]
  rw [ev]
  exact kx.2 b1 b2 hL p e s m args below meth c H locs ls F hRH hS hl
theorem ax_getJ {idx ci k a : Nat} {x : Int64} (fl : FL mi.1.cls idx ci k) (hs : zso ci k = 2) (hd : decode mi.2.1 pc = .ok (.getfield idx, 3)) (hg : gJ ci h a k = some x) (kx : AW l E mi R B Qf (pc + 3) L (.long x :: st) h) : AW l E mi R B Qf pc L (va_rf (some a) :: st) h := by
  obtain ⟨hk, hx⟩ := gJ_of hg
  refine ⟨kx.1, fun b1 b2 hL p e s m args below meth c H locs ls F hRH hS hl => wx_get F hRH fl hk hd ?_⟩
  have ev : fvl E h a (zso ci k) k = .long x := by
    rw [hs]; show Value.long (hJ h a k) = _; rw [hx]
  rw [ev]
  exact kx.2 b1 b2 hL p e s m args below meth c H locs ls F hRH hS hl
theorem ax_getR {idx ci k a : Nat} {x : Option Nat} (fl : FL mi.1.cls idx ci k) (hs : zso ci k = 3) (hd : decode mi.2.1 pc = .ok (.getfield idx, 3)) (hg : gR ci h a k = some x) (kx : AW l E mi R B Qf (pc + 3) L (va_rf x :: st) h) : AW l E mi R B Qf pc L (va_rf (some a) :: st) h := by
  obtain ⟨hk, hx⟩ := gR_of hg
  refine ⟨kx.1, fun b1 b2 hL p e s m args below meth c H locs ls F hRH hS hl => wx_get F hRH fl hk hd ?_⟩
  have ev : fvl E h a (zso ci k) k = vr E (va_rf x) := by
    rw [hs, vr_rf]; show va_rf ((hR h a k).map (ad E)) = _; rw [hx]
  rw [ev]
  exact kx.2 b1 b2 hL p e s m args below meth c H locs ls F hRH hS hl
theorem hI_uI (h : AH) (a k : Nat) (v : Int32) (b j : Nat) : hI (uI h a k v) b j = if b = a ∧ j = k then v else hI h b j := rfl
theorem hJ_uJ (h : AH) (a k : Nat) (v : Int64) (b j : Nat) : hJ (uJ h a k v) b j = if b = a ∧ j = k then v else hJ h b j := rfl
theorem hR_uR (h : AH) (a k : Nat) (v : Option Nat) (b j : Nat) : hR (uR h a k v) b j = if b = a ∧ j = k then v else hR h b j := rfl
theorem uI_row {h : AH} {a k b : Nat} {v : Int32} (hb : b ≠ a) : hI (uI h a k v) b = hI h b := by funext j; rw [hI_uI, if_neg (fun q => hb q.1)]
theorem uJ_row {h : AH} {a k b : Nat} {v : Int64} (hb : b ≠ a) : hJ (uJ h a k v) b = hJ h b := by funext j; rw [hJ_uJ, if_neg (fun q => hb q.1)]
theorem uR_row {h : AH} {a k b : Nat} {v : Option Nat} (hb : b ≠ a) : hR (uR h a k v) b = hR h b := by funext j; rw [hR_uR, if_neg (fun q => hb q.1)]
theorem ax_putI {idx ci k a : Nat} {v : Int32} (fw : FW mi.1.cls mi.1.name idx ci k) (hs : zso ci k = 0) (hci : Nat.blt ci 13 = true) (hd : decode mi.2.1 pc = .ok (.putfield idx, 3)) (hg : pI ci h a k v = some h') (kx : AW l E mi R B Qf (pc + 3) L st h') : AW l E mi R B Qf pc L (.int v :: va_rf (some a) :: st) h := by
  unfold pI at hg
  split at hg
  · rename_i hk
    cases hg
    refine ⟨kx.1, fun b1 b2 hL p e s m args below meth c H locs ls F hRH hS hl => ?_⟩
    have hkN : k < znf ci := by obtain ⟨r, hc, hkN, -⟩ := fw; rw [(zall ci r hc).2.2.2.2.1]; exact hkN
    have hz := (zso_int ci (by have := Nat.le_of_ble_eq_true hci; omega) k hkN).1 hs
    refine wx_put (h' := uI h a k v) (v := .int v) F hRH hS fw hk (by rw [hz]; rfl) (by rw [hz]; rfl) rfl (fun _ => rfl) (fun b hb => ⟨uI_row hb, rfl, rfl⟩) (fun j hj => ?_) hd (fun H1 locs1 g1 g2 => kx.2 b1 b2 hL p e s m args below meth c H1 locs1 ls F g1 g2 hl)
    by_cases ej : j = k
    · subst ej
      rw [if_pos rfl, hs]
      show Value.int (hI (uI h a j v) a j) = _
      rw [hI_uI, if_pos ⟨rfl, rfl⟩]
    · rw [if_neg ej]
      unfold fvl
      rw [hI_uI, if_neg (fun q => ej q.2)]
      rfl
  · cases hg
theorem ax_putZ {idx ci k a : Nat} {v : Int32} (fw : FW mi.1.cls mi.1.name idx ci k) (hs : zso ci k = 1) (hci : Nat.blt ci 13 = true) (hd : decode mi.2.1 pc = .ok (.putfield idx, 3)) (hg : pZ ci h a k v = some h') (kx : AW l E mi R B Qf (pc + 3) L st h') : AW l E mi R B Qf pc L (.int v :: va_rf (some a) :: st) h := by
  unfold pZ at hg
  split at hg
  · rename_i hk2
    obtain ⟨hk, hv⟩ := hk2
    cases hg
    refine ⟨kx.1, fun b1 b2 hL p e s m args below meth c H locs ls F hRH hS hl => ?_⟩
    have hkN : k < znf ci := by obtain ⟨r, hc, hkN, -⟩ := fw; rw [(zall ci r hc).2.2.2.2.1]; exact hkN
    have hz := (zso_int ci (by have := Nat.le_of_ble_eq_true hci; omega) k hkN).2.1 hs
    refine wx_put (h' := uI h a k v) (v := .int v) F hRH hS fw hk (by rw [hz]; rcases hv with rfl | rfl <;> rfl) (by rw [hz]; rcases hv with rfl | rfl <;> rfl) rfl (fun _ => rfl) (fun b hb => ⟨uI_row hb, rfl, rfl⟩) (fun j hj => ?_) hd (fun H1 locs1 g1 g2 => kx.2 b1 b2 hL p e s m args below meth c H1 locs1 ls F g1 g2 hl)
    by_cases ej : j = k
    · subst ej
      rw [if_pos rfl, hs]
      show Value.int (hI (uI h a j v) a j) = _
      rw [hI_uI, if_pos ⟨rfl, rfl⟩]
    · rw [if_neg ej]
      unfold fvl
      rw [hI_uI, if_neg (fun q => ej q.2)]
      rfl
  · cases hg
theorem ax_putJ {idx ci k a : Nat} {v : Int64} (fw : FW mi.1.cls mi.1.name idx ci k) (hs : zso ci k = 2) (hci : Nat.blt ci 13 = true) (hd : decode mi.2.1 pc = .ok (.putfield idx, 3)) (hg : pJ ci h a k v = some h') (kx : AW l E mi R B Qf (pc + 3) L st h') : AW l E mi R B Qf pc L (.long v :: va_rf (some a) :: st) h := by
  unfold pJ at hg
  split at hg
  · rename_i hk
    cases hg
    refine ⟨kx.1, fun b1 b2 hL p e s m args below meth c H locs ls F hRH hS hl => ?_⟩
    have hkN : k < znf ci := by obtain ⟨r, hc, hkN, -⟩ := fw; rw [(zall ci r hc).2.2.2.2.1]; exact hkN
    have hz := (zso_int ci (by have := Nat.le_of_ble_eq_true hci; omega) k hkN).2.2.1 hs
    refine wx_put (h' := uJ h a k v) (v := .long v) F hRH hS fw hk (by rw [hz]; rfl) (by rw [hz]; rfl) rfl (fun _ => rfl) (fun b hb => ⟨rfl, uJ_row hb, rfl⟩) (fun j hj => ?_) hd (fun H1 locs1 g1 g2 => kx.2 b1 b2 hL p e s m args below meth c H1 locs1 ls F g1 g2 hl)
    by_cases ej : j = k
    · subst ej
      rw [if_pos rfl, hs]
      show Value.long (hJ (uJ h a j v) a j) = _
      rw [hJ_uJ, if_pos ⟨rfl, rfl⟩]
    · rw [if_neg ej]
      unfold fvl
      rw [hJ_uJ, if_neg (fun q => ej q.2)]
      rfl
  · cases hg
theorem fits_ref {t : FieldType} (h : refKind t = true) (r : Option Nat) : narrow t (va_rf r) = va_rf r ∧ fits t (va_rf r) = true := by
  cases t <;> first | (exfalso; revert h; decide) | (cases r <;> exact ⟨rfl, rfl⟩)
theorem ax_putR {idx ci k a : Nat} {v : Option Nat} (fw : FW mi.1.cls mi.1.name idx ci k) (hs : zso ci k = 3) (hci : Nat.blt ci 13 = true) (hd : decode mi.2.1 pc = .ok (.putfield idx, 3)) (hg : pR ci h a k v = some h') (kx : AW l E mi R B Qf (pc + 3) L st h') : AW l E mi R B Qf pc L (va_rf v :: va_rf (some a) :: st) h := by
  unfold pR at hg
  split at hg
  · rename_i hk
    cases hg
    refine ⟨kx.1, fun b1 b2 hL p e s m args below meth c H locs ls F hRH hS hl => ?_⟩
    have hkN : k < znf ci := by obtain ⟨r, hc, hkN, -⟩ := fw; rw [(zall ci r hc).2.2.2.2.1]; exact hkN
    have hz := (zso_int ci (by have := Nat.le_of_ble_eq_true hci; omega) k hkN).2.2.2.1 hs
    show W p l e R s m args below meth c H locs _ _ _ (F0 m pc ls (vr E (va_rf v) :: vr E (va_rf (some a)) :: st.map (vr E)))
    rw [vr_rf]
    refine wx_put (h' := uR h a k v) (v := va_rf (v.map (ad E))) F hRH hS fw hk (fits_ref hz _).1 (fits_ref hz _).2 rfl (fun _ => rfl) (fun b hb => ⟨rfl, rfl, uR_row hb⟩) (fun j hj => ?_) hd (fun H1 locs1 g1 g2 => kx.2 b1 b2 hL p e s m args below meth c H1 locs1 ls F g1 g2 hl)
    by_cases ej : j = k
    · subst ej
      rw [if_pos rfl, hs]
      show va_rf ((hR (uR h a j v) a j).map (ad E)) = _
      rw [hR_uR, if_pos ⟨rfl, rfl⟩]
    · rw [if_neg ej]
      unfold fvl
      rw [hR_uR, if_neg (fun q => ej q.2)]
      rfl
  · cases hg
end HX
