/-! System.arraycopy of ints and of longs -/
section CPX
variable {l : Launch} {E : EN} {mi : MI} {R : Room} {B : (Nat × Nat) × (Nat × Nat)} {Qf : QF} {pc : Nat} {L : List (Option Value)} {st : List Value} {h h' : AH}
theorem nfw : nativeFrameWords "java/lang/System" "arraycopy" 5 ≤ 40 := by decide
theorem nn_clamp (z : Int32) (hz : ¬ z < 0) : z.toInt = (z.toNatClampNeg : Int) := by
  have hz0 : (0 : Int) ≤ z.toInt := by
    have := Int32.not_lt.mp hz
    simpa using Int32.le_iff_toInt_le.mp this
  show z.toInt = ((z.toInt.toNat : Nat) : Int)
  omega
theorem ax_cpI {idx a b : Nat} {i j n : Int32} (hw : Cond.methodLink mi.1.cls idx arraycopyName ∈ zgw) (hna : Cond.native arraycopyName ∈ zgw) (hst : Cond.static arraycopyName ∈ zgw) (hini : Cond.initialized "java/lang/System" ∈ zgw) (hR1 : 1 ≤ R.frames) (hR2 : 64 ≤ R.locals) (hs : (st.map fun v => v.category).sum ≤ 8) (hd : decode mi.2.1 pc = .ok (.invokestatic idx, 3)) (hg : cpI h a i b j n = some h') (kx : AW l E mi R B Qf (pc + 3) L st h') : AW l E mi R B Qf pc L (.int n :: .int j :: va_rf (some b) :: .int i :: va_rf (some a) :: st) h := by
  unfold cpI at hg
  split at hg
  · rename_i q
    obtain ⟨ka, kb, a4, b4, h1, h2, h3, h4, h5⟩ := q
    cases hg
    refine ⟨kx.1, fun b1 b2 hL p e s m args below meth c H locs ls F hRH hS hl => ?_⟩
    have hts := F.2.2.2.2.2.2.2.1
    have hKK := F.2.2.2.2.2.2.2.2.1.1
    have hc0 : H[ad E a]? = some (vp_cell (eA E 1) ((hK h a).2, .inl (hI h a))) := hRH.row a4 (d := 1) (by omega) (by omega) ka
    have hc1 : H[ad E b]? = some (vp_cell (eA E 1) ((hK h b).2, .inl (hI h b))) := hRH.row b4 (d := 1) (by omega) (by omega) kb
    obtain ⟨t0, ht⟩ := tys_at E (d := 1) (by decide)
    obtain ⟨-, k0, hk0, cm0, hkk0⟩ := (hKK.2 t0 _ ht).1 (hK h a).2 (fun j => .int (hI h a j))
    obtain ⟨-, k1, hk1, cm1, hkk1⟩ := (hKK.2 t0 _ ht).1 (hK h b).2 (fun j => .int (hI h b j))
    show W p l e R s m args below meth c H locs _ _ _ (F0 m pc ls (.int n :: .int j :: .ref (ad E b) :: .int i :: .ref (ad E a) :: st.map (vr E)))
    intro T hT X
    obtain ⟨vm', X', step⟩ := X.arraycopy F.1 F.2.2.2.2.2.1 (hts _ hw) (hts _ hna) (hts _ hst) (hts _ hini) (src := ad E a) (dst := ad E b) (cs := vp_cell (eA E 1) ((hK h a).2, .inl (hI h a))) (cd := vp_cell (eA E 1) ((hK h b).2, .inl (hI h b))) (srcPos := i) (destPos := j) (n := n) (by rw [hT]; exact hc0) (by rw [hT]; exact hc1)
      (fun _ h => by cases h) (fun _ h => by cases h) (fun h => by cases h) (fun h => by cases h) hk0 hk1 hkk0 hkk1 (by rfl) h1 h2 h3
      (by rw [nn_clamp i h1, nn_clamp n h3]; show ¬ _ > ((arrV (eA E 1) (hK h a).2 (fun j => .int (hI h a j))).slots.size : Int); rw [arrV_size]; omega)
      (by rw [nn_clamp j h2, nn_clamp n h3]; show ¬ _ > ((arrV (eA E 1) (hK h b).2 (fun j => .int (hI h b j))).slots.size : Int); rw [arrV_size]; omega)
      (fun vm₁ _ k hk => by
        have ev : (vp_cell (eA E 1) ((hK h a).2, .inl (hI h a))).slots.getD (i.toNatClampNeg + k) .null = .int (hI h a (i.toNatClampNeg + k)) := by
          show (arrV (eA E 1) (hK h a).2 (fun j => .int (hI h a j))).slots.getD _ _ = _
          rw [Array.getD_eq_getD_getElem?, arrV_read _ _ (by omega)]
          rfl
        refine ⟨?_, ?_⟩
        · rw [ev]; rfl
        · rw [ev]; exact trivial)
      (g := F0 m pc ls (.int n :: .int j :: .ref (ad E b) :: .int i :: .ref (ad E a) :: st.map (vr E))) rfl (by show ls.size = _; rw [hl.1, hL, F.2.2.1]) (rest := st.map (vr E)) rfl (by rw [F.2.1]; exact hd) hR1 (by show 2 * 0 + _ + (nativeFrameWords "java/lang/System" "arraycopy" 5 + 11) ≤ _; rw [vr_sum]; have := nfw; omega)
    have e1 : copied (vp_cell (eA E 1) ((hK h a).2, .inl (hI h a))) (vp_cell (eA E 1) ((hK h b).2, .inl (hI h b))) i j n = vp_cell (eA E 1) ((hK h b).2, .inl (va_cpy (hI h a) (hI h b) i.toNatClampNeg j.toNatClampNeg n.toNatClampNeg)) := va_copied (fun z => .int z) (eA E 1) (eA E 1) (hI h a) (hI h b) h4
    rw [e1] at X' step
    have hlt : ad E b < H.size := (Array.getElem?_eq_some_iff.mp hc1).1
    generalize ecl : vp_cell (eA E 1) ((hK h b).2, .inl (va_cpy (hI h a) (hI h b) i.toNatClampNeg j.toNatClampNeg n.toNatClampNeg)) = cl at X' step
    have hheap : ((T.setVm vm').setCell (ad E b) cl).heap = H.setIfInBounds (ad E b) cl := by rw [← hT]; rfl
    have oq : ∀ q : Nat, q ≠ ad E b → (H.setIfInBounds (ad E b) cl)[q]? = H[q]? := fun q hq => by simp [Array.getElem?_setIfInBounds, Ne.symm hq]
    have hat : va_at (eD E) zcl (ad E b, cel E (uIr h b (va_cpy (hI h a) (hI h b) i.toNatClampNeg j.toNatClampNeg n.toNatClampNeg)) b) (H.setIfInBounds (ad E b) cl) := by
      rw [cel_arr (h := uIr h b (va_cpy (hI h a) (hI h b) i.toNatClampNeg j.toNatClampNeg n.toNatClampNeg)) (d := 1) kb (by omega)]
      show (H.setIfInBounds (ad E b) cl)[ad E b]? = some (vp_cell (eA E 1) ((hK h b).2, .inl (hI (uIr h b (va_cpy (hI h a) (hI h b) i.toNatClampNeg j.toNatClampNeg n.toNatClampNeg)) b)))
      have er : hI (uIr h b (va_cpy (hI h a) (hI h b) i.toNatClampNeg j.toNatClampNeg n.toNatClampNeg)) b = va_cpy (hI h a) (hI h b) i.toNatClampNeg j.toNatClampNeg n.toNatClampNeg := by
        funext y; show (if b = b then _ else _) = _; rw [if_pos rfl]
      rw [er, ecl]
      simp [Array.getElem?_setIfInBounds, hlt]
    have hR1 : RH E (uIr h b (va_cpy (hI h a) (hI h b) i.toNatClampNeg j.toNatClampNeg n.toNatClampNeg)) (H.setIfInBounds (ad E b) cl) :=
      hRH.upd b4 rfl (fun _ => rfl) (fun y hy => ⟨by funext z; show (if y = b then _ else _) = _; rw [if_neg hy]; rfl, rfl, rfl⟩) (by simp) oq hat
    obtain ⟨t, a1, bb1⟩ := kx.2 b1 b2 hL p e s m args below meth c _ _ ls F hR1 ⟨by simp; exact hS.1, fun q g1 g2 => by
        rw [oq q (fun e => g2 (by rw [e]; exact ad_fr b4))]
        exact hS.2.1 q g1 g2, fun q hq => by
        rcases List.mem_append.mp hq with hh | hh
        · exact hS.2.2 q hh
        · obtain ⟨z, -, hz⟩ := List.mem_map.mp hh
          rw [← hz]
          exact ad_fr b4⟩ hl _ hheap X'
    exact ⟨t, step t a1, bb1⟩
  · cases hg
theorem ax_cpJ {idx a b : Nat} {i j n : Int32} (hw : Cond.methodLink mi.1.cls idx arraycopyName ∈ zgw) (hna : Cond.native arraycopyName ∈ zgw) (hst : Cond.static arraycopyName ∈ zgw) (hini : Cond.initialized "java/lang/System" ∈ zgw) (hR1 : 1 ≤ R.frames) (hR2 : 64 ≤ R.locals) (hs : (st.map fun v => v.category).sum ≤ 8) (hd : decode mi.2.1 pc = .ok (.invokestatic idx, 3)) (hg : cpJ h a i b j n = some h') (kx : AW l E mi R B Qf (pc + 3) L st h') : AW l E mi R B Qf pc L (.int n :: .int j :: va_rf (some b) :: .int i :: va_rf (some a) :: st) h := by
  unfold cpJ at hg
  split at hg
  · rename_i q
    obtain ⟨ka, kb, a4, b4, h1, h2, h3, h4, h5⟩ := q
    cases hg
    refine ⟨kx.1, fun b1 b2 hL p e s m args below meth c H locs ls F hRH hS hl => ?_⟩
    have hts := F.2.2.2.2.2.2.2.1
    have hKK := F.2.2.2.2.2.2.2.2.1.1
    have hc0 : H[ad E a]? = some (vp_cell (eA E 4) ((hK h a).2, .inr (.inl (hJ h a)))) := hRH.row a4 (d := 4) (by omega) (by omega) ka
    have hc1 : H[ad E b]? = some (vp_cell (eA E 4) ((hK h b).2, .inr (.inl (hJ h b)))) := hRH.row b4 (d := 4) (by omega) (by omega) kb
    obtain ⟨t0, ht⟩ := tys_at E (d := 4) (by decide)
    obtain ⟨-, k0, hk0, cm0, hkk0⟩ := (hKK.2 t0 _ ht).1 (hK h a).2 (fun j => .long (hJ h a j))
    obtain ⟨-, k1, hk1, cm1, hkk1⟩ := (hKK.2 t0 _ ht).1 (hK h b).2 (fun j => .long (hJ h b j))
    show W p l e R s m args below meth c H locs _ _ _ (F0 m pc ls (.int n :: .int j :: .ref (ad E b) :: .int i :: .ref (ad E a) :: st.map (vr E)))
    intro T hT X
    obtain ⟨vm', X', step⟩ := X.arraycopy F.1 F.2.2.2.2.2.1 (hts _ hw) (hts _ hna) (hts _ hst) (hts _ hini) (src := ad E a) (dst := ad E b) (cs := vp_cell (eA E 4) ((hK h a).2, .inr (.inl (hJ h a)))) (cd := vp_cell (eA E 4) ((hK h b).2, .inr (.inl (hJ h b)))) (srcPos := i) (destPos := j) (n := n) (by rw [hT]; exact hc0) (by rw [hT]; exact hc1)
      (fun _ h => by cases h) (fun _ h => by cases h) (fun h => by cases h) (fun h => by cases h) hk0 hk1 hkk0 hkk1 (by rfl) h1 h2 h3
      (by rw [nn_clamp i h1, nn_clamp n h3]; show ¬ _ > ((arrV (eA E 4) (hK h a).2 (fun j => .long (hJ h a j))).slots.size : Int); rw [arrV_size]; omega)
      (by rw [nn_clamp j h2, nn_clamp n h3]; show ¬ _ > ((arrV (eA E 4) (hK h b).2 (fun j => .long (hJ h b j))).slots.size : Int); rw [arrV_size]; omega)
      (fun vm₁ _ k hk => by
        have ev : (vp_cell (eA E 4) ((hK h a).2, .inr (.inl (hJ h a)))).slots.getD (i.toNatClampNeg + k) .null = .long (hJ h a (i.toNatClampNeg + k)) := by
          show (arrV (eA E 4) (hK h a).2 (fun j => .long (hJ h a j))).slots.getD _ _ = _
          rw [Array.getD_eq_getD_getElem?, arrV_read _ _ (by omega)]
          rfl
        refine ⟨?_, ?_⟩
        · rw [ev]; rfl
        · rw [ev]; exact trivial)
      (g := F0 m pc ls (.int n :: .int j :: .ref (ad E b) :: .int i :: .ref (ad E a) :: st.map (vr E))) rfl (by show ls.size = _; rw [hl.1, hL, F.2.2.1]) (rest := st.map (vr E)) rfl (by rw [F.2.1]; exact hd) hR1 (by show 2 * 0 + _ + (nativeFrameWords "java/lang/System" "arraycopy" 5 + 11) ≤ _; rw [vr_sum]; have := nfw; omega)
    have e1 : copied (vp_cell (eA E 4) ((hK h a).2, .inr (.inl (hJ h a)))) (vp_cell (eA E 4) ((hK h b).2, .inr (.inl (hJ h b)))) i j n = vp_cell (eA E 4) ((hK h b).2, .inr (.inl (va_cpy (hJ h a) (hJ h b) i.toNatClampNeg j.toNatClampNeg n.toNatClampNeg))) := va_copied (fun z => .long z) (eA E 4) (eA E 4) (hJ h a) (hJ h b) h4
    rw [e1] at X' step
    have hlt : ad E b < H.size := (Array.getElem?_eq_some_iff.mp hc1).1
    generalize ecl : vp_cell (eA E 4) ((hK h b).2, .inr (.inl (va_cpy (hJ h a) (hJ h b) i.toNatClampNeg j.toNatClampNeg n.toNatClampNeg))) = cl at X' step
    have hheap : ((T.setVm vm').setCell (ad E b) cl).heap = H.setIfInBounds (ad E b) cl := by rw [← hT]; rfl
    have oq : ∀ q : Nat, q ≠ ad E b → (H.setIfInBounds (ad E b) cl)[q]? = H[q]? := fun q hq => by simp [Array.getElem?_setIfInBounds, Ne.symm hq]
    have hat : va_at (eD E) zcl (ad E b, cel E (uJr h b (va_cpy (hJ h a) (hJ h b) i.toNatClampNeg j.toNatClampNeg n.toNatClampNeg)) b) (H.setIfInBounds (ad E b) cl) := by
      rw [cel_arr (h := uJr h b (va_cpy (hJ h a) (hJ h b) i.toNatClampNeg j.toNatClampNeg n.toNatClampNeg)) (d := 4) kb (by omega)]
      show (H.setIfInBounds (ad E b) cl)[ad E b]? = some (vp_cell (eA E 4) ((hK h b).2, .inr (.inl (hJ (uJr h b (va_cpy (hJ h a) (hJ h b) i.toNatClampNeg j.toNatClampNeg n.toNatClampNeg)) b))))
      have er : hJ (uJr h b (va_cpy (hJ h a) (hJ h b) i.toNatClampNeg j.toNatClampNeg n.toNatClampNeg)) b = va_cpy (hJ h a) (hJ h b) i.toNatClampNeg j.toNatClampNeg n.toNatClampNeg := by
        funext y; show (if b = b then _ else _) = _; rw [if_pos rfl]
      rw [er, ecl]
      simp [Array.getElem?_setIfInBounds, hlt]
    have hR1 : RH E (uJr h b (va_cpy (hJ h a) (hJ h b) i.toNatClampNeg j.toNatClampNeg n.toNatClampNeg)) (H.setIfInBounds (ad E b) cl) :=
      hRH.upd b4 rfl (fun _ => rfl) (fun y hy => ⟨rfl, by funext z; show (if y = b then _ else _) = _; rw [if_neg hy]; rfl, rfl⟩) (by simp) oq hat
    obtain ⟨t, a1, bb1⟩ := kx.2 b1 b2 hL p e s m args below meth c _ _ ls F hR1 ⟨by simp; exact hS.1, fun q g1 g2 => by
        rw [oq q (fun e => g2 (by rw [e]; exact ad_fr b4))]
        exact hS.2.1 q g1 g2, fun q hq => by
        rcases List.mem_append.mp hq with hh | hh
        · exact hS.2.2 q hh
        · obtain ⟨z, -, hz⟩ := List.mem_map.mp hh
          rw [← hz]
          exact ad_fr b4⟩ hl _ hheap X'
    exact ⟨t, step t a1, bb1⟩
  · cases hg
end CPX
