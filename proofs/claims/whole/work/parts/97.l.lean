/-! THE WHOLE RELATION, and each call on it (mostly printed by wip/gen/gen_rel.py) -/
def Rl (L : Nat) (xs : Nat → Int32) (h : AH) (tn pn hn rn ev : Nat) (ta ts pg ha : Nat → Nat) : Prop := Lay h ∧ RTalks h tn ta ts ∧ RPage h pn pg ∧ RHelp h hn ha ∧ RLev h ∧ RRow h hn rn ∧ RCnt h ∧ RJoin h ∧ RLog h hn ev ∧ RAd h tn ta ts ∧ Dj hn ha tn ta ∧ (hM h ≤ 237 + 4 * tn + 2 * hn ∧ hZ h ≤ 79765 + 455 * tn + 9 * hn) ∧ P3 L xs h
def Rel (L : Nat) (xs : Nat → Int32) (h : AH) : Prop := ∃ (tn pn hn rn ev : Nat) (ta ts pg ha : Nat → Nat), Rl L xs h tn pn hn rn ev ta ts pg ha
theorem P3.frm {L : Nat} {xs : Nat → Int32} {h h' : AH} {S : Nat → Nat → Prop} (p : P3 L xs h) (f : Fr S h h') (n : ∀ k, ¬ S 3 k) : P3 L xs h' := p.u f.1 f.2.2.1 (fun j => (f.2.2.2 3 j (n j)).1)
theorem Ag.mono {S T : Nat → Nat → Prop} {h h' : AH} (f : Ag S h h') (s : ∀ a k, T a k → S a k) : Ag T h h' := ⟨f.1, f.2.1, fun a k h1 h2 => f.2.2 a k h1 (s a k h2)⟩
theorem P3.agm {L : Nat} {xs : Nat → Int32} {h h' : AH} {S : Nat → Nat → Prop} (p : P3 L xs h) (f : Ag S h h') (n : ∀ k, S 3 k) : P3 L xs h' := by
  have := p.1
  exact ⟨Nat.le_trans p.1 f.1, by rw [f.2.1 3 (by omega)]; exact p.2.1, by rw [f.2.1 201 (by omega)]; exact p.2.2.1, fun k => by rw [(f.2.2 3 k (by omega) (n k)).1]; exact p.2.2.2 k⟩
section RE
variable {L : Nat} {xs : Nat → Int32} {h : AH}
theorem r_letters (R : Rel L xs h) (x : Int64) : ∃ r h1 h2, f_C_letters h 4 x = some (r, h1) ∧ f_M_letters h1 201 x = some (r, h2) ∧ P3 L xs h1 ∧ Rel L xs h2 := by
  obtain ⟨tn, pn, hn, rn, ev, ta, ts, pg, ha, hl, rt, rp, rh, rl, rr, rc, rj, rg, ra, dj, bd, p⟩ := R
  have hm := hl.2.2.2.2.2.2
  obtain ⟨r, h1, h2, e1, e2, ⟨pn2, pg2, rp2⟩, f⟩ := o_letters hl rp x
  have l2 := f.lay hl (by have : ∀ q ∈ rTab, ¬ ((q.1 = 5 ∧ q.2.1 = 1) ∨ q.1 = 6 ∨ (q.1 = 201 ∧ q.2.1 = 0) ∨ q.1 = 202) := by decide +kernel
                          exact this) (by intro a k z; omega)
  exact ⟨r, h1, h2, e1, e2, k_C_letters p _ e1, tn, pn2, hn, rn, ev, ta, ts, pg2, ha, l2, rt.ag hm (f.ag (by unfold FTalk; omega)), rp2, rh.ag hm (f.ag (by unfold FHelp; omega)), rl.ag hm (f.ag (by unfold FLev; omega)), rr.ag hm (f.ag (by unfold FRow; omega)), rc.ag hm (f.ag (by unfold FCnt; omega)), rj.ag hm (f.ag (by unfold FJoin; omega)), rg.ag hm (f.ag (by unfold FLog; omega)), ra.ag hm (f.ag (by unfold FAd; omega)), dj, ⟨by rw [f.1]; exact bd.1, by rw [f.2.1]; exact bd.2⟩, p.frm f (by intro k; omega)⟩
theorem r_blank (R : Rel L xs h) : ∃ r h1 h2, f_C_blank h 4  = some (r, h1) ∧ f_M_blank h1 201  = some (r, h2) ∧ P3 L xs h1 ∧ Rel L xs h2 := by
  obtain ⟨tn, pn, hn, rn, ev, ta, ts, pg, ha, hl, rt, rp, rh, rl, rr, rc, rj, rg, ra, dj, bd, p⟩ := R
  have hm := hl.2.2.2.2.2.2
  obtain ⟨r, h1, h2, e1, e2, rp2, f⟩ := o_blank hl rp
  have l2 := f.lay hl (by have : ∀ q ∈ rTab, ¬ ((q.1 = 5 ∧ q.2.1 = 1) ∨ (q.1 = 201 ∧ q.2.1 = 0)) := by decide +kernel
                          exact this) (by intro a k z; omega)
  exact ⟨r, h1, h2, e1, e2, k_C_blank p _ e1, tn, 0, hn, rn, ev, ta, ts, pg, ha, l2, rt.ag hm (f.ag (by unfold FTalk; omega)), rp2, rh.ag hm (f.ag (by unfold FHelp; omega)), rl.ag hm (f.ag (by unfold FLev; omega)), rr.ag hm (f.ag (by unfold FRow; omega)), rc.ag hm (f.ag (by unfold FCnt; omega)), rj.ag hm (f.ag (by unfold FJoin; omega)), rg.ag hm (f.ag (by unfold FLog; omega)), ra.ag hm (f.ag (by unfold FAd; omega)), dj, ⟨by rw [f.1]; exact bd.1, by rw [f.2.1]; exact bd.2⟩, p.frm f (by intro k; omega)⟩
theorem r_good (R : Rel L xs h) : ∃ r h1 h2, f_C_good h 4  = some (r, h1) ∧ f_M_good h1 201  = some (r, h2) ∧ P3 L xs h1 ∧ Rel L xs h2 := by
  obtain ⟨tn, pn, hn, rn, ev, ta, ts, pg, ha, hl, rt, rp, rh, rl, rr, rc, rj, rg, ra, dj, bd, p⟩ := R
  have hm := hl.2.2.2.2.2.2
  obtain ⟨r, h1, h2, e1, e2, f0⟩ := o_good hl rp
  have f := f0.fr
  have l2 := f0.lay hl
  exact ⟨r, h1, h2, e1, e2, k_C_good p _ e1, tn, pn, hn, rn, ev, ta, ts, pg, ha, l2, rt.ag hm (f.ag (by unfold FTalk SRd SRc SRm; omega)), rp.ag hm (f.ag (by unfold FPage SRd SRc SRm; omega)), rh.ag hm (f.ag (by unfold FHelp SRd SRc SRm; omega)), rl.ag hm (f.ag (by unfold FLev SRd SRc SRm; omega)), rr.ag hm (f.ag (by unfold FRow SRd SRc SRm; omega)), rc.ag hm (f.ag (by unfold FCnt SRd SRc SRm; omega)), rj.ag hm (f.ag (by unfold FJoin SRd SRc SRm; omega)), rg.ag hm (f.ag (by unfold FLog SRd SRc SRm; omega)), ra.ag hm (f.ag (by unfold FAd SRd SRc SRm; omega)), dj, ⟨by rw [f.1]; exact bd.1, by rw [f.2.1]; exact bd.2⟩, p.frm f (by intro k; unfold SRd SRc SRm; omega)⟩
theorem r_join (R : Rel L xs h) (x : Int32) (y : Int32) (z : Int32) : ∃ r h1 h2, f_C_join h 4 x y z = some (r, h1) ∧ f_M_join h1 201 x y z = some (r, h2) ∧ P3 L xs h1 ∧ Rel L xs h2 := by
  obtain ⟨tn, pn, hn, rn, ev, ta, ts, pg, ha, hl, rt, rp, rh, rl, rr, rc, rj, rg, ra, dj, bd, p⟩ := R
  have hm := hl.2.2.2.2.2.2
  obtain ⟨r, h1, h2, e1, e2, l2, f, rj2, rc2⟩ := o_join hl rt rj rc x y z
  exact ⟨r, h1, h2, e1, e2, k_C_join p _ e1, tn, pn, hn, rn, ev, ta, ts, pg, ha, l2, rt.ag hm (f.ag (by unfold FTalk SJo SWj SWt SWk SMj SMw SMk; omega)), rp.ag hm (f.ag (by unfold FPage SJo SWj SWt SWk SMj SMw SMk; omega)), rh.ag hm (f.ag (by unfold FHelp SJo SWj SWt SWk SMj SMw SMk; omega)), rl.ag hm (f.ag (by unfold FLev SJo SWj SWt SWk SMj SMw SMk; omega)), rr.ag hm (f.ag (by unfold FRow SJo SWj SWt SWk SMj SMw SMk; omega)), rc2, rj2, rg.ag hm (f.ag (by unfold FLog SJo SWj SWt SWk SMj SMw SMk; omega)), ra.ag hm (f.ag (by unfold FAd SJo SWj SWt SWk SMj SMw SMk; omega)), dj, ⟨by rw [f.1]; exact bd.1, by rw [f.2.1]; exact bd.2⟩, p.frm f (by intro k; unfold SJo SWj SWt SWk SMj SMw SMk; omega)⟩
theorem r_fit (R : Rel L xs h) (x : Int32) (y : Int32) : ∃ r h1 h2, f_C_fit h 4 x y = some (r, h1) ∧ f_M_fit h1 201 x y = some (r, h2) ∧ P3 L xs h1 ∧ Rel L xs h2 := by
  obtain ⟨tn, pn, hn, rn, ev, ta, ts, pg, ha, hl, rt, rp, rh, rl, rr, rc, rj, rg, ra, dj, bd, p⟩ := R
  have hm := hl.2.2.2.2.2.2
  obtain ⟨r, h1, h2, e1, e2, l2, f⟩ := o_fit hl rt x y
  exact ⟨r, h1, h2, e1, e2, k_C_fit p _ e1, tn, pn, hn, rn, ev, ta, ts, pg, ha, l2, rt.ag hm (f.ag (by unfold FTalk SFit; omega)), rp.ag hm (f.ag (by unfold FPage SFit; omega)), rh.ag hm (f.ag (by unfold FHelp SFit; omega)), rl.ag hm (f.ag (by unfold FLev SFit; omega)), rr.ag hm (f.ag (by unfold FRow SFit; omega)), rc.ag hm (f.ag (by unfold FCnt SFit; omega)), rj.ag hm (f.ag (by unfold FJoin SFit; omega)), rg.ag hm (f.ag (by unfold FLog SFit; omega)), ra.ag hm (f.ag (by unfold FAd SFit; omega)), dj, ⟨by rw [f.1]; exact bd.1, by rw [f.2.1]; exact bd.2⟩, p.frm f (by intro k; unfold SFit; omega)⟩
theorem r_swap (R : Rel L xs h) (x : Int32) (y : Int32) (z : Int32) : ∃ r h1 h2, f_C_swap h 4 x y z = some (r, h1) ∧ f_M_swap h1 201 x y z = some (r, h2) ∧ P3 L xs h1 ∧ Rel L xs h2 := by
  obtain ⟨tn, pn, hn, rn, ev, ta, ts, pg, ha, hl, rt, rp, rh, rl, rr, rc, rj, rg, ra, dj, bd, p⟩ := R
  have hm := hl.2.2.2.2.2.2
  obtain ⟨r, h1, h2, e1, e2, l2, f⟩ := o_swap hl rt x y z
  exact ⟨r, h1, h2, e1, e2, k_C_swap p _ e1, tn, pn, hn, rn, ev, ta, ts, pg, ha, l2, rt.ag hm (f.ag (by unfold FTalk SFit; omega)), rp.ag hm (f.ag (by unfold FPage SFit; omega)), rh.ag hm (f.ag (by unfold FHelp SFit; omega)), rl.ag hm (f.ag (by unfold FLev SFit; omega)), rr.ag hm (f.ag (by unfold FRow SFit; omega)), rc.ag hm (f.ag (by unfold FCnt SFit; omega)), rj.ag hm (f.ag (by unfold FJoin SFit; omega)), rg.ag hm (f.ag (by unfold FLog SFit; omega)), ra.ag hm (f.ag (by unfold FAd SFit; omega)), dj, ⟨by rw [f.1]; exact bd.1, by rw [f.2.1]; exact bd.2⟩, p.frm f (by intro k; unfold SFit; omega)⟩
theorem r_adapters (R : Rel L xs h) (x : Int32) (y : Int32) : ∃ r h1 h2, f_C_adapters h 4 x y = some (r, h1) ∧ f_M_adapters h1 201 x y = some (r, h2) ∧ P3 L xs h1 ∧ Rel L xs h2 := by
  obtain ⟨tn, pn, hn, rn, ev, ta, ts, pg, ha, hl, rt, rp, rh, rl, rr, rc, rj, rg, ra, dj, bd, p⟩ := R
  have hm := hl.2.2.2.2.2.2
  obtain ⟨r, h1, h2, e1, e2, l2, f, rc2, ra2⟩ := o_adapters hl rt rc ra x y
  exact ⟨r, h1, h2, e1, e2, k_C_adapters p _ e1, tn, pn, hn, rn, ev, ta, ts, pg, ha, l2, rt.ag hm (f.ag (by unfold FTalk SAp SAc SAf SAd SAg SSk SMw SMk; omega)), rp.ag hm (f.ag (by unfold FPage SAp SAc SAf SAd SAg SSk SMw SMk; omega)), rh.ag hm (f.ag (by unfold FHelp SAp SAc SAf SAd SAg SSk SMw SMk; omega)), rl.ag hm (f.ag (by unfold FLev SAp SAc SAf SAd SAg SSk SMw SMk; omega)), rr.ag hm (f.ag (by unfold FRow SAp SAc SAf SAd SAg SSk SMw SMk; omega)), rc2, rj.ag hm (f.ag (by unfold FJoin SAp SAc SAf SAd SAg SSk SMw SMk; omega)), rg.ag hm (f.ag (by unfold FLog SAp SAc SAf SAd SAg SSk SMw SMk; omega)), ra2, dj, ⟨by rw [f.1]; exact bd.1, by rw [f.2.1]; exact bd.2⟩, p.frm f (by intro k; unfold SAp SAc SAf SAd SAg SSk SMw SMk; omega)⟩
theorem r_adapter (R : Rel L xs h) (x : Int32) (y : Int32) (z : Int32) (w : Int32) : ∃ r h1 h2, f_C_adapter h 4 x y z w = some (r, h1) ∧ f_M_adapter h1 201 x y z w = some (r, h2) ∧ P3 L xs h1 ∧ Rel L xs h2 := by
  obtain ⟨tn, pn, hn, rn, ev, ta, ts, pg, ha, hl, rt, rp, rh, rl, rr, rc, rj, rg, ra, dj, bd, p⟩ := R
  have hm := hl.2.2.2.2.2.2
  obtain ⟨r, h1, h2, e1, e2, l2, f, rc2, ra2⟩ := o_adapter hl rt rc ra x y z w
  exact ⟨r, h1, h2, e1, e2, k_C_adapter p _ e1, tn, pn, hn, rn, ev, ta, ts, pg, ha, l2, rt.ag hm (f.ag (by unfold FTalk SAp SAc SAf SAd SAg SSk SMw SMk; omega)), rp.ag hm (f.ag (by unfold FPage SAp SAc SAf SAd SAg SSk SMw SMk; omega)), rh.ag hm (f.ag (by unfold FHelp SAp SAc SAf SAd SAg SSk SMw SMk; omega)), rl.ag hm (f.ag (by unfold FLev SAp SAc SAf SAd SAg SSk SMw SMk; omega)), rr.ag hm (f.ag (by unfold FRow SAp SAc SAf SAd SAg SSk SMw SMk; omega)), rc2, rj.ag hm (f.ag (by unfold FJoin SAp SAc SAf SAd SAg SSk SMw SMk; omega)), rg.ag hm (f.ag (by unfold FLog SAp SAc SAf SAd SAg SSk SMw SMk; omega)), ra2, dj, ⟨by rw [f.1]; exact bd.1, by rw [f.2.1]; exact bd.2⟩, p.frm f (by intro k; unfold SAp SAc SAf SAd SAg SSk SMw SMk; omega)⟩
theorem r_level (R : Rel L xs h) (x : Int32) (y : Int32) : ∃ r h1 h2, f_C_level h 4 x y = some (r, h1) ∧ f_M_level h1 201 x y = some (r, h2) ∧ P3 L xs h1 ∧ Rel L xs h2 := by
  obtain ⟨tn, pn, hn, rn, ev, ta, ts, pg, ha, hl, rt, rp, rh, rl, rr, rc, rj, rg, ra, dj, bd, p⟩ := R
  have hm := hl.2.2.2.2.2.2
  obtain ⟨r, h1, h2, e1, e2, rl2, f⟩ := o_level hl rl x y
  have l2 := f.lay hl (by have : ∀ q ∈ rTab, ¬ (q.1 = 109 ∨ q.1 = 210) := by decide +kernel
                          exact this) (by intro a k z; omega)
  exact ⟨r, h1, h2, e1, e2, k_C_level p _ e1, tn, pn, hn, rn, ev, ta, ts, pg, ha, l2, rt.ag hm (f.ag (by unfold FTalk; omega)), rp.ag hm (f.ag (by unfold FPage; omega)), rh.ag hm (f.ag (by unfold FHelp; omega)), rl2, rr.ag hm (f.ag (by unfold FRow; omega)), rc.ag hm (f.ag (by unfold FCnt; omega)), rj.ag hm (f.ag (by unfold FJoin; omega)), rg.ag hm (f.ag (by unfold FLog; omega)), ra.ag hm (f.ag (by unfold FAd; omega)), dj, ⟨by rw [f.1]; exact bd.1, by rw [f.2.1]; exact bd.2⟩, p.frm f (by intro k; omega)⟩
theorem r_put (R : Rel L xs h) (x : Int32) : ∃ r h1 h2, f_C_put h 4 x = some (r, h1) ∧ f_M_put h1 201 x = some (r, h2) ∧ P3 L xs h1 ∧ Rel L xs h2 := by
  obtain ⟨tn, pn, hn, rn, ev, ta, ts, pg, ha, hl, rt, rp, rh, rl, rr, rc, rj, rg, ra, dj, bd, p⟩ := R
  have hm := hl.2.2.2.2.2.2
  obtain ⟨r, h1, h2, e1, e2, ⟨rn2, rr2⟩, f⟩ := o_put hl rh rr x
  have l2 := f.lay hl (by have : ∀ q ∈ rTab, ¬ ((q.1 = 107 ∧ q.2.1 = 4) ∨ (q.1 = 201 ∧ q.2.1 = 15) ∨ q.1 = 110 ∨ q.1 = 211) := by decide +kernel
                          exact this) (by intro a k z; omega)
  exact ⟨r, h1, h2, e1, e2, k_C_put p _ e1, tn, pn, hn, rn2, ev, ta, ts, pg, ha, l2, rt.ag hm (f.ag (by unfold FTalk; omega)), rp.ag hm (f.ag (by unfold FPage; omega)), rh.ag hm (f.ag (by unfold FHelp; omega)), rl.ag hm (f.ag (by unfold FLev; omega)), rr2, rc.ag hm (f.ag (by unfold FCnt; omega)), rj.ag hm (f.ag (by unfold FJoin; omega)), rg.ag hm (f.ag (by unfold FLog; omega)), ra.ag hm (f.ag (by unfold FAd; omega)), dj, ⟨by rw [f.1]; exact bd.1, by rw [f.2.1]; exact bd.2⟩, p.frm f (by intro k; omega)⟩
theorem r_empty (R : Rel L xs h) : ∃ r h1 h2, f_C_empty h 4  = some (r, h1) ∧ f_M_empty h1 201  = some (r, h2) ∧ P3 L xs h1 ∧ Rel L xs h2 := by
  obtain ⟨tn, pn, hn, rn, ev, ta, ts, pg, ha, hl, rt, rp, rh, rl, rr, rc, rj, rg, ra, dj, bd, p⟩ := R
  have hm := hl.2.2.2.2.2.2
  obtain ⟨r, h1, h2, e1, e2, rr2, f⟩ := o_empty hl rr
  have l2 := f.lay hl (by have : ∀ q ∈ rTab, ¬ ((q.1 = 107 ∧ q.2.1 = 4) ∨ (q.1 = 201 ∧ q.2.1 = 15)) := by decide +kernel
                          exact this) (by intro a k z; omega)
  exact ⟨r, h1, h2, e1, e2, k_C_empty p _ e1, tn, pn, hn, 0, ev, ta, ts, pg, ha, l2, rt.ag hm (f.ag (by unfold FTalk; omega)), rp.ag hm (f.ag (by unfold FPage; omega)), rh.ag hm (f.ag (by unfold FHelp; omega)), rl.ag hm (f.ag (by unfold FLev; omega)), rr2, rc.ag hm (f.ag (by unfold FCnt; omega)), rj.ag hm (f.ag (by unfold FJoin; omega)), rg.ag hm (f.ag (by unfold FLog; omega)), ra.ag hm (f.ag (by unfold FAd; omega)), dj, ⟨by rw [f.1]; exact bd.1, by rw [f.2.1]; exact bd.2⟩, p.frm f (by intro k; omega)⟩
theorem r_stops (R : Rel L xs h) (x : Int32) : ∃ r h1 h2, f_C_stops h 4 x = some (r, h1) ∧ f_M_stops h1 201 x = some (r, h2) ∧ P3 L xs h1 ∧ Rel L xs h2 := by
  obtain ⟨tn, pn, hn, rn, ev, ta, ts, pg, ha, hl, rt, rp, rh, rl, rr, rc, rj, rg, ra, dj, bd, p⟩ := R
  have hm := hl.2.2.2.2.2.2
  obtain ⟨r, h1, h2, e1, e2, f0⟩ := o_stops hl rh rl rr x
  have f := f0.fr
  have l2 := f0.lay hl
  exact ⟨r, h1, h2, e1, e2, k_C_stops p _ e1, tn, pn, hn, rn, ev, ta, ts, pg, ha, l2, rt.ag hm (f.ag (by unfold FTalk ScG; omega)), rp.ag hm (f.ag (by unfold FPage ScG; omega)), rh.ag hm (f.ag (by unfold FHelp ScG; omega)), rl.ag hm (f.ag (by unfold FLev ScG; omega)), rr.ag hm (f.ag (by unfold FRow ScG; omega)), rc.ag hm (f.ag (by unfold FCnt ScG; omega)), rj.ag hm (f.ag (by unfold FJoin ScG; omega)), rg.ag hm (f.ag (by unfold FLog ScG; omega)), ra.ag hm (f.ag (by unfold FAd ScG; omega)), dj, ⟨by rw [f.1]; exact bd.1, by rw [f.2.1]; exact bd.2⟩, p.frm f (by intro k; unfold ScG; omega)⟩
theorem r_after (R : Rel L xs h) (x : Int32) : ∃ r h1 h2, f_C_after h 4 x = some (r, h1) ∧ f_M_after h1 201 x = some (r, h2) ∧ P3 L xs h1 ∧ Rel L xs h2 := by
  obtain ⟨tn, pn, hn, rn, ev, ta, ts, pg, ha, hl, rt, rp, rh, rl, rr, rc, rj, rg, ra, dj, bd, p⟩ := R
  have hm := hl.2.2.2.2.2.2
  obtain ⟨r, h1, h2, e1, e2, f0⟩ := o_after hl rh rl rr x
  have f := f0.fr
  have l2 := f0.lay hl
  exact ⟨r, h1, h2, e1, e2, k_C_after p _ e1, tn, pn, hn, rn, ev, ta, ts, pg, ha, l2, rt.ag hm (f.ag (by unfold FTalk ScG; omega)), rp.ag hm (f.ag (by unfold FPage ScG; omega)), rh.ag hm (f.ag (by unfold FHelp ScG; omega)), rl.ag hm (f.ag (by unfold FLev ScG; omega)), rr.ag hm (f.ag (by unfold FRow ScG; omega)), rc.ag hm (f.ag (by unfold FCnt ScG; omega)), rj.ag hm (f.ag (by unfold FJoin ScG; omega)), rg.ag hm (f.ag (by unfold FLog ScG; omega)), ra.ag hm (f.ag (by unfold FAd ScG; omega)), dj, ⟨by rw [f.1]; exact bd.1, by rw [f.2.1]; exact bd.2⟩, p.frm f (by intro k; unfold ScG; omega)⟩
theorem r_undone (R : Rel L xs h) (x : Int32) : ∃ r h1 h2, f_C_undone h 4 x = some (r, h1) ∧ f_M_undone h1 201 x = some (r, h2) ∧ P3 L xs h1 ∧ Rel L xs h2 := by
  obtain ⟨tn, pn, hn, rn, ev, ta, ts, pg, ha, hl, rt, rp, rh, rl, rr, rc, rj, rg, ra, dj, bd, p⟩ := R
  have hm := hl.2.2.2.2.2.2
  obtain ⟨r, h1, h2, e1, e2, f0⟩ := o_undone hl rh rl rr x
  have f := f0.fr
  have l2 := f0.lay hl
  exact ⟨r, h1, h2, e1, e2, k_C_undone p _ e1, tn, pn, hn, rn, ev, ta, ts, pg, ha, l2, rt.ag hm (f.ag (by unfold FTalk ScG; omega)), rp.ag hm (f.ag (by unfold FPage ScG; omega)), rh.ag hm (f.ag (by unfold FHelp ScG; omega)), rl.ag hm (f.ag (by unfold FLev ScG; omega)), rr.ag hm (f.ag (by unfold FRow ScG; omega)), rc.ag hm (f.ag (by unfold FCnt ScG; omega)), rj.ag hm (f.ag (by unfold FJoin ScG; omega)), rg.ag hm (f.ag (by unfold FLog ScG; omega)), ra.ag hm (f.ag (by unfold FAd ScG; omega)), dj, ⟨by rw [f.1]; exact bd.1, by rw [f.2.1]; exact bd.2⟩, p.frm f (by intro k; unfold ScG; omega)⟩
theorem r_taint (R : Rel L xs h) (x : Int32) (y : Int32) : ∃ r h1 h2, f_C_taint h 4 x y = some (r, h1) ∧ f_M_taint h1 201 x y = some (r, h2) ∧ P3 L xs h1 ∧ Rel L xs h2 := by
  obtain ⟨tn, pn, hn, rn, ev, ta, ts, pg, ha, hl, rt, rp, rh, rl, rr, rc, rj, rg, ra, dj, bd, p⟩ := R
  have hm := hl.2.2.2.2.2.2
  obtain ⟨r, h1, h2, e1, e2, f0⟩ := o_taint hl rh rl rr x y
  have f := f0.fr
  have l2 := f0.lay hl
  exact ⟨r, h1, h2, e1, e2, k_C_taint p _ e1, tn, pn, hn, rn, ev, ta, ts, pg, ha, l2, rt.ag hm (f.ag (by unfold FTalk ScG; omega)), rp.ag hm (f.ag (by unfold FPage ScG; omega)), rh.ag hm (f.ag (by unfold FHelp ScG; omega)), rl.ag hm (f.ag (by unfold FLev ScG; omega)), rr.ag hm (f.ag (by unfold FRow ScG; omega)), rc.ag hm (f.ag (by unfold FCnt ScG; omega)), rj.ag hm (f.ag (by unfold FJoin ScG; omega)), rg.ag hm (f.ag (by unfold FLog ScG; omega)), ra.ag hm (f.ag (by unfold FAd ScG; omega)), dj, ⟨by rw [f.1]; exact bd.1, by rw [f.2.1]; exact bd.2⟩, p.frm f (by intro k; unfold ScG; omega)⟩
theorem r_plan (R : Rel L xs h) (x : Int32) (y : Int32) (z : Int32) : ∃ r h1 h2, f_C_plan h 4 x y z = some (r, h1) ∧ f_M_plan h1 201 x y z = some (r, h2) ∧ P3 L xs h1 ∧ Rel L xs h2 := by
  obtain ⟨tn, pn, hn, rn, ev, ta, ts, pg, ha, hl, rt, rp, rh, rl, rr, rc, rj, rg, ra, dj, bd, p⟩ := R
  have hm := hl.2.2.2.2.2.2
  obtain ⟨r, h1, h2, e1, e2, f0, ⟨rn2, rr2⟩, rc2⟩ := o_plan hl rh rl rr rc x y z
  have f := f0.fr
  have l2 := f0.lay hl
  exact ⟨r, h1, h2, e1, e2, k_C_plan p _ e1, tn, pn, hn, rn2, ev, ta, ts, pg, ha, l2, rt.ag hm (f.ag (by unfold FTalk SPlan SPl SPm; omega)), rp.ag hm (f.ag (by unfold FPage SPlan SPl SPm; omega)), rh.ag hm (f.ag (by unfold FHelp SPlan SPl SPm; omega)), rl.ag hm (f.ag (by unfold FLev SPlan SPl SPm; omega)), rr2, rc2, rj.ag hm (f.ag (by unfold FJoin SPlan SPl SPm; omega)), rg.ag hm (f.ag (by unfold FLog SPlan SPl SPm; omega)), ra.ag hm (f.ag (by unfold FAd SPlan SPl SPm; omega)), dj, ⟨by rw [f.1]; exact bd.1, by rw [f.2.1]; exact bd.2⟩, p.frm f (by intro k; unfold SPlan SPl SPm; omega)⟩
theorem r_begin (R : Rel L xs h) (x : Int32) : ∃ r h1 h2, f_C_begin h 4 x = some (r, h1) ∧ f_M_begin h1 201 x = some (r, h2) ∧ P3 L xs h1 ∧ Rel L xs h2 := by
  obtain ⟨tn, pn, hn, rn, ev, ta, ts, pg, ha, hl, rt, rp, rh, rl, rr, rc, rj, rg, ra, dj, bd, p⟩ := R
  have hm := hl.2.2.2.2.2.2
  obtain ⟨r, h1, h2, e1, e2, ⟨ev2, rg2⟩, f0⟩ := o_begin hl rg x
  have f := f0.fr
  have l2 := f0.lay hl
  exact ⟨r, h1, h2, e1, e2, k_C_begin p _ e1, tn, pn, hn, rn, ev2, ta, ts, pg, ha, l2, rt.ag hm (f.ag (by unfold FTalk SLog; omega)), rp.ag hm (f.ag (by unfold FPage SLog; omega)), rh.ag hm (f.ag (by unfold FHelp SLog; omega)), rl.ag hm (f.ag (by unfold FLev SLog; omega)), rr.ag hm (f.ag (by unfold FRow SLog; omega)), rc.ag hm (f.ag (by unfold FCnt SLog; omega)), rj.ag hm (f.ag (by unfold FJoin SLog; omega)), rg2, ra.ag hm (f.ag (by unfold FAd SLog; omega)), dj, ⟨by rw [f.1]; exact bd.1, by rw [f.2.1]; exact bd.2⟩, p.frm f (by intro k; unfold SLog; omega)⟩
theorem r_call (R : Rel L xs h) (x : Int32) (y : Int32) : ∃ r h1 h2, f_C_call h 4 x y = some (r, h1) ∧ f_M_call h1 201 x y = some (r, h2) ∧ P3 L xs h1 ∧ Rel L xs h2 := by
  obtain ⟨tn, pn, hn, rn, ev, ta, ts, pg, ha, hl, rt, rp, rh, rl, rr, rc, rj, rg, ra, dj, bd, p⟩ := R
  have hm := hl.2.2.2.2.2.2
  obtain ⟨r, h1, h2, e1, e2, ⟨ev2, rg2⟩, f0⟩ := o_call hl rh rg x y
  have f := f0.fr
  have l2 := f0.lay hl
  exact ⟨r, h1, h2, e1, e2, k_C_call p _ e1, tn, pn, hn, rn, ev2, ta, ts, pg, ha, l2, rt.ag hm (f.ag (by unfold FTalk SLog; omega)), rp.ag hm (f.ag (by unfold FPage SLog; omega)), rh.ag hm (f.ag (by unfold FHelp SLog; omega)), rl.ag hm (f.ag (by unfold FLev SLog; omega)), rr.ag hm (f.ag (by unfold FRow SLog; omega)), rc.ag hm (f.ag (by unfold FCnt SLog; omega)), rj.ag hm (f.ag (by unfold FJoin SLog; omega)), rg2, ra.ag hm (f.ag (by unfold FAd SLog; omega)), dj, ⟨by rw [f.1]; exact bd.1, by rw [f.2.1]; exact bd.2⟩, p.frm f (by intro k; unfold SLog; omega)⟩
theorem r_see (R : Rel L xs h) (x : Int32) (b : Bool) : ∃ r h1 h2, f_C_see h 4 x (bI b) = some (r, h1) ∧ f_M_see h1 201 x (bI b) = some (r, h2) ∧ P3 L xs h1 ∧ Rel L xs h2 := by
  obtain ⟨tn, pn, hn, rn, ev, ta, ts, pg, ha, hl, rt, rp, rh, rl, rr, rc, rj, rg, ra, dj, bd, p⟩ := R
  have hm := hl.2.2.2.2.2.2
  obtain ⟨r, h1, h2, e1, e2, ⟨ev2, rg2⟩, f0⟩ := o_see hl rh.1 rg x b
  have f := f0.fr
  have l2 := f0.lay hl
  exact ⟨r, h1, h2, e1, e2, k_C_see p _ e1, tn, pn, hn, rn, ev2, ta, ts, pg, ha, l2, rt.ag hm (f.ag (by unfold FTalk SLog; omega)), rp.ag hm (f.ag (by unfold FPage SLog; omega)), rh.ag hm (f.ag (by unfold FHelp SLog; omega)), rl.ag hm (f.ag (by unfold FLev SLog; omega)), rr.ag hm (f.ag (by unfold FRow SLog; omega)), rc.ag hm (f.ag (by unfold FCnt SLog; omega)), rj.ag hm (f.ag (by unfold FJoin SLog; omega)), rg2, ra.ag hm (f.ag (by unfold FAd SLog; omega)), dj, ⟨by rw [f.1]; exact bd.1, by rw [f.2.1]; exact bd.2⟩, p.frm f (by intro k; unfold SLog; omega)⟩
theorem r_strike (R : Rel L xs h) : ∃ r h1 h2, f_C_strike h 4  = some (r, h1) ∧ f_M_strike h1 201  = some (r, h2) ∧ P3 L xs h1 ∧ Rel L xs h2 := by
  obtain ⟨tn, pn, hn, rn, ev, ta, ts, pg, ha, hl, rt, rp, rh, rl, rr, rc, rj, rg, ra, dj, bd, p⟩ := R
  have hm := hl.2.2.2.2.2.2
  obtain ⟨r, h1, h2, e1, e2, ⟨ev2, rg2⟩, f⟩ := o_strike hl rg
  have l2 := f.lay hl (by have : ∀ q ∈ rTab, ¬ ((q.1 = 135 ∧ q.2.1 = 1) ∨ (q.1 = 201 ∧ q.2.1 = 18)) := by decide +kernel
                          exact this) (by intro a k z; omega)
  exact ⟨r, h1, h2, e1, e2, k_C_strike p _ e1, tn, pn, hn, rn, ev2, ta, ts, pg, ha, l2, rt.ag hm (f.ag (by unfold FTalk; omega)), rp.ag hm (f.ag (by unfold FPage; omega)), rh.ag hm (f.ag (by unfold FHelp; omega)), rl.ag hm (f.ag (by unfold FLev; omega)), rr.ag hm (f.ag (by unfold FRow; omega)), rc.ag hm (f.ag (by unfold FCnt; omega)), rj.ag hm (f.ag (by unfold FJoin; omega)), rg2, ra.ag hm (f.ag (by unfold FAd; omega)), dj, ⟨by rw [f.1]; exact bd.1, by rw [f.2.1]; exact bd.2⟩, p.frm f (by intro k; omega)⟩
theorem r_worlds (R : Rel L xs h) (x : Int32) : ∃ r h2, f_C_worlds h 4 x = some r ∧ f_M_worlds h 201 x = some (r, h2) ∧ Rel L xs h2 := by
  obtain ⟨tn, pn, hn, rn, ev, ta, ts, pg, ha, hl, rt, rp, rh, rl, rr, rc, rj, rg, ra, dj, bd, p⟩ := R
  have hm := hl.2.2.2.2.2.2
  obtain ⟨r, h2, e1, e2, f0⟩ := o_worlds hl rh rg x
  have f := f0.fr
  have l2 := f0.lay hl
  exact ⟨r, h2, e1, e2, tn, pn, hn, rn, ev, ta, ts, pg, ha, l2, rt.ag hm (f.ag (by unfold FTalk SWd; omega)), rp.ag hm (f.ag (by unfold FPage SWd; omega)), rh.ag hm (f.ag (by unfold FHelp SWd; omega)), rl.ag hm (f.ag (by unfold FLev SWd; omega)), rr.ag hm (f.ag (by unfold FRow SWd; omega)), rc.ag hm (f.ag (by unfold FCnt SWd; omega)), rj.ag hm (f.ag (by unfold FJoin SWd; omega)), rg.ag hm (f.ag (by unfold FLog SWd; omega)), ra.ag hm (f.ag (by unfold FAd SWd; omega)), dj, ⟨by rw [f.1]; exact bd.1, by rw [f.2.1]; exact bd.2⟩, p.frm f (by intro k; unfold SWd; omega)⟩
theorem r_held (R : Rel L xs h) (x : Int32) : ∃ r h2, f_C_held h 4 x = some r ∧ f_M_held h 201 x = some (r, h2) ∧ Rel L xs h2 := by
  obtain ⟨tn, pn, hn, rn, ev, ta, ts, pg, ha, hl, rt, rp, rh, rl, rr, rc, rj, rg, ra, dj, bd, p⟩ := R
  have hm := hl.2.2.2.2.2.2
  obtain ⟨r, h2, e1, e2, f0⟩ := o_held hl rh rg x
  have f := f0.fr
  have l2 := f0.lay hl
  exact ⟨r, h2, e1, e2, tn, pn, hn, rn, ev, ta, ts, pg, ha, l2, rt.ag hm (f.ag (by unfold FTalk SWd; omega)), rp.ag hm (f.ag (by unfold FPage SWd; omega)), rh.ag hm (f.ag (by unfold FHelp SWd; omega)), rl.ag hm (f.ag (by unfold FLev SWd; omega)), rr.ag hm (f.ag (by unfold FRow SWd; omega)), rc.ag hm (f.ag (by unfold FCnt SWd; omega)), rj.ag hm (f.ag (by unfold FJoin SWd; omega)), rg.ag hm (f.ag (by unfold FLog SWd; omega)), ra.ag hm (f.ag (by unfold FAd SWd; omega)), dj, ⟨by rw [f.1]; exact bd.1, by rw [f.2.1]; exact bd.2⟩, p.frm f (by intro k; unfold SWd; omega)⟩
theorem r_world (R : Rel L xs h) (x : Int32) : ∃ r h2, f_C_world h 4 x = some r ∧ f_M_world h 201 x = some (r, h2) ∧ Rel L xs h2 := by
  obtain ⟨tn, pn, hn, rn, ev, ta, ts, pg, ha, hl, rt, rp, rh, rl, rr, rc, rj, rg, ra, dj, bd, p⟩ := R
  have hm := hl.2.2.2.2.2.2
  obtain ⟨r, h2, e1, e2, f0⟩ := o_world hl rh rg x
  have f := f0.fr
  have l2 := f0.lay hl
  exact ⟨r, h2, e1, e2, tn, pn, hn, rn, ev, ta, ts, pg, ha, l2, rt.ag hm (f.ag (by unfold FTalk SWd; omega)), rp.ag hm (f.ag (by unfold FPage SWd; omega)), rh.ag hm (f.ag (by unfold FHelp SWd; omega)), rl.ag hm (f.ag (by unfold FLev SWd; omega)), rr.ag hm (f.ag (by unfold FRow SWd; omega)), rc.ag hm (f.ag (by unfold FCnt SWd; omega)), rj.ag hm (f.ag (by unfold FJoin SWd; omega)), rg.ag hm (f.ag (by unfold FLog SWd; omega)), ra.ag hm (f.ag (by unfold FAd SWd; omega)), dj, ⟨by rw [f.1]; exact bd.1, by rw [f.2.1]; exact bd.2⟩, p.frm f (by intro k; unfold SWd; omega)⟩
theorem r_again (R : Rel L xs h) (x : Int32) : ∃ r h2, f_C_again h 4 x = some r ∧ f_M_again h 201 x = some (r, h2) ∧ Rel L xs h2 := by
  obtain ⟨tn, pn, hn, rn, ev, ta, ts, pg, ha, hl, rt, rp, rh, rl, rr, rc, rj, rg, ra, dj, bd, p⟩ := R
  have hm := hl.2.2.2.2.2.2
  obtain ⟨r, h2, e1, e2, f0⟩ := o_again hl rh rg x
  have f := f0.fr
  have l2 := f0.lay hl
  exact ⟨r, h2, e1, e2, tn, pn, hn, rn, ev, ta, ts, pg, ha, l2, rt.ag hm (f.ag (by unfold FTalk SWd; omega)), rp.ag hm (f.ag (by unfold FPage SWd; omega)), rh.ag hm (f.ag (by unfold FHelp SWd; omega)), rl.ag hm (f.ag (by unfold FLev SWd; omega)), rr.ag hm (f.ag (by unfold FRow SWd; omega)), rc.ag hm (f.ag (by unfold FCnt SWd; omega)), rj.ag hm (f.ag (by unfold FJoin SWd; omega)), rg.ag hm (f.ag (by unfold FLog SWd; omega)), ra.ag hm (f.ag (by unfold FAd SWd; omega)), dj, ⟨by rw [f.1]; exact bd.1, by rw [f.2.1]; exact bd.2⟩, p.frm f (by intro k; unfold SWd; omega)⟩
theorem r_broken (R : Rel L xs h) : ∃ r h2, f_C_broken h 4  = some r ∧ f_M_broken h 201  = some (r, h2) ∧ Rel L xs h2 := by
  obtain ⟨tn, pn, hn, rn, ev, ta, ts, pg, ha, hl, rt, rp, rh, rl, rr, rc, rj, rg, ra, dj, bd, p⟩ := R
  have hm := hl.2.2.2.2.2.2
  obtain ⟨r, h2, e1, e2, f0⟩ := o_broken hl rh rg
  have f := f0.fr
  have l2 := f0.lay hl
  exact ⟨r, h2, e1, e2, tn, pn, hn, rn, ev, ta, ts, pg, ha, l2, rt.ag hm (f.ag (by unfold FTalk SWd; omega)), rp.ag hm (f.ag (by unfold FPage SWd; omega)), rh.ag hm (f.ag (by unfold FHelp SWd; omega)), rl.ag hm (f.ag (by unfold FLev SWd; omega)), rr.ag hm (f.ag (by unfold FRow SWd; omega)), rc.ag hm (f.ag (by unfold FCnt SWd; omega)), rj.ag hm (f.ag (by unfold FJoin SWd; omega)), rg.ag hm (f.ag (by unfold FLog SWd; omega)), ra.ag hm (f.ag (by unfold FAd SWd; omega)), dj, ⟨by rw [f.1]; exact bd.1, by rw [f.2.1]; exact bd.2⟩, p.frm f (by intro k; unfold SWd; omega)⟩
theorem r_digest (R : Rel L xs h) : ∃ r h2, f_C_digest h 4  = some r ∧ f_M_digest h 201  = some (r, h2) ∧ Rel L xs h2 := by
  obtain ⟨tn, pn, hn, rn, ev, ta, ts, pg, ha, hl, rt, rp, rh, rl, rr, rc, rj, rg, ra, dj, bd, p⟩ := R
  have hm := hl.2.2.2.2.2.2
  obtain ⟨r, h2, e1, e2, f0⟩ := o_digest hl rt rp rh rl rr rc rg
  have f := f0.fr
  have l2 := f0.lay hl
  exact ⟨r, h2, e1, e2, tn, pn, hn, rn, ev, ta, ts, pg, ha, l2, rt.ag hm (f.ag (by unfold FTalk SDg; omega)), rp.ag hm (f.ag (by unfold FPage SDg; omega)), rh.ag hm (f.ag (by unfold FHelp SDg; omega)), rl.ag hm (f.ag (by unfold FLev SDg; omega)), rr.ag hm (f.ag (by unfold FRow SDg; omega)), rc.ag hm (f.ag (by unfold FCnt SDg; omega)), rj.ag hm (f.ag (by unfold FJoin SDg; omega)), rg.ag hm (f.ag (by unfold FLog SDg; omega)), ra.ag hm (f.ag (by unfold FAd SDg; omega)), dj, ⟨by rw [f.1]; exact bd.1, by rw [f.2.1]; exact bd.2⟩, p.frm f (by intro k; unfold SDg; omega)⟩
theorem r_set (R : Rel L xs h) (x : Int32) (y : Int32) (z : Int32) : ∃ r h1 h2, f_C_set h 4 x y z = some (r, h1) ∧ f_M_set h1 201 x y z = some (r, h2) ∧ P3 L xs h1 ∧ Rel L xs h2 := by
  obtain ⟨tn, pn, hn, rn, ev, ta, ts, pg, ha, hl, rt, rp, rh, rl, rr, rc, rj, rg, ra, dj, bd, p⟩ := R
  have hm := hl.2.2.2.2.2.2
  obtain ⟨r, h1, h2, e1, e2, rh2, f⟩ := o_set (tn := tn) (ta := ta) hl rh dj x y z
  have big : ∀ s, s < hn → 237 ≤ ha s := fun s hs => (rh.2.2.2 s hs).2.1
  have ns : ∀ (a k : Nat), a < 237 → ¬ a = 209 → ¬ ((∃ s, s < hn ∧ a = ha s + 1) ∨ a = 209) := by
    rintro a k h1 h2 (⟨s, s1, s2⟩ | z)
    · have := big s s1; omega
    · exact h2 z
  have lo : ∀ T : Nat → Nat → Prop, (∀ a k, T a k → a < 237 ∧ ¬ a = 209) → Ag T h h2 := fun T hT => f.ag (fun a k z => ns a k (hT a k z).1 (hT a k z).2)
  have n209 : ∀ q ∈ rTab, ¬ q.1 = 209 := by decide +kernel
  have l2 : Lay h2 := f.lay hl (fun q hq => ns _ 0 (rTab_lt q hq) (n209 q hq)) (by
    rintro a k (⟨s, s1, s2⟩ | z)
    · have := big s s1; omega
    · omega)
  have rt2 : RTalks h2 tn ta ts := by
    obtain ⟨t1, t2, t3, t4⟩ := rt
    refine ⟨t1, by rw [f.I (ns 4 2 (by decide) (by decide))]; exact t2, by rw [f.I (ns 201 2 (by decide) (by decide))]; exact t3, fun t ht => ⟨by rw [f.R (ns 91 t (by decide) (by decide))]; exact (t4 t ht).1, ?_⟩⟩
    have T := (t4 t ht).2
    have t37 := T.2.1
    have nb : ∀ (b k : Nat), ta t ≤ b → b ≤ ta t + 3 → ¬ ((∃ s, s < hn ∧ b = ha s + 1) ∨ b = 209) := by
      rintro b k b1 b2 (⟨s, s1, s2⟩ | z)
      · have := dj.2.1 s t s1 ht; omega
      · omega
    exact T.keep (Nat.le_of_eq f.1.symm) (fun b b1 b2 => ⟨f.K b, fun k => f.I (nb b k b1 b2), fun k => f.R (nb b k b1 b2)⟩) (f.I (ns 203 t (by decide) (by decide))) (fun j _ _ => f.I (ns 204 j (by decide) (by decide))) (fun j _ _ => f.I (ns 205 j (by decide) (by decide)))
  exact ⟨r, h1, h2, e1, e2, k_C_set p _ e1, tn, pn, hn, rn, ev, ta, ts, pg, ha, l2, rt2, rp.ag hm (lo _ (by unfold FPage; omega)), rh2, rl.ag hm (lo _ (by unfold FLev; omega)), rr.ag hm (lo _ (by unfold FRow; omega)), rc.ag hm (lo _ (by unfold FCnt; omega)), rj.ag hm (lo _ (by unfold FJoin; omega)), rg.ag hm (lo _ (by unfold FLog; omega)), ra.ag hm (lo _ (by unfold FAd; omega)), dj, ⟨by rw [f.1]; exact bd.1, by rw [f.2.1]; exact bd.2⟩, p.frm f (fun k => ns 3 k (by decide) (by decide))⟩
theorem RRow.up {hn hn' rn : Nat} (r : RRow h hn rn) (le : hn ≤ hn') : RRow h hn' rn := by
  obtain ⟨r1, r2, r3, r4⟩ := r
  refine ⟨r1, r2, r3, fun i hi => ?_⟩
  obtain ⟨a, s, b, c⟩ := r4 i hi
  exact ⟨a, s, by omega, c⟩
theorem RLog.grow {h' : AH} {hn hn' ev : Nat} (r : RLog h hn ev) (h8 : hn ≤ 8) (le : hn ≤ hn') (e1 : hI h' 135 1 = hI h 135 1) (e2 : hI h' 201 17 = hI h 201 17) (e3 : hI h' 201 18 = hI h 201 18) (e4 : ∀ k, hI h' 212 k = hI h 212 k) (e5 : ∀ k, hI h' 213 k = hI h 213 k) (e6 : ∀ a k, 140 ≤ a → a ≤ 200 → hJ h' a k = hJ h a k) (e7 : ∀ b, 206 ≤ b → b ≤ 208 → ∀ s, s < hn → hI h' b s = hI h b s) : RLog h' hn' ev := by
  obtain ⟨r1, r2, r3, r4, r5, r6⟩ := r
  have st : ∀ e, e < ev → ∀ S, stepW h' e S = stepW h e S := by
    intro e he S
    obtain ⟨k, o, k1, k2, k3⟩ := r5 e he
    have eo : ofN h' e = ofN h e := by unfold ofN; rw [e5]
    have oo : ofN h e = o := by unfold ofN; rw [k2, cl_nI (by omega)]
    unfold stepW
    rw [eo, e4, k1, oo]
    rcases k3 with ⟨a, b⟩ | ⟨a, b⟩
    · rw [e7 206 (by omega) (by omega) o b, e7 207 (by omega) (by omega) o b, e7 208 (by omega) (by omega) o b]
    · funext w
      rcases a with a | a
      · subst a; simp only [stepK, show ¬ nI 3 = 0 by decide, show ¬ nI 3 = 1 by decide, show ¬ nI 3 = 2 by decide, if_false]
      · subst a; simp only [stepK, show ¬ nI 4 = 0 by decide, show ¬ nI 4 = 1 by decide, show ¬ nI 4 = 2 by decide, if_false]
  have wl : ∀ t, t ≤ ev → wld h' t = wld h t := by
    intro t
    induction t with
    | zero => intro _; funext w; show decide (hI h' 201 17 = nI w) = decide (hI h 201 17 = nI w); rw [e2]
    | succ t ih => intro ht; show stepW h' t (wld h' t) = stepW h t (wld h t); rw [ih (by omega), st t (by omega)]
  refine ⟨r1, by rw [e1]; exact r2, by rw [e3]; exact r3, by rw [e2]; exact r4, fun e he => ?_, fun t ht w hw => ?_⟩
  · obtain ⟨k, o, k1, k2, k3⟩ := r5 e he
    exact ⟨k, o, by rw [e4]; exact k1, by rw [e5]; exact k2, by omega⟩
  · rw [e6 _ _ (by omega) (by omega), wl t ht]; exact r6 t ht w hw
theorem r_helper (R : Rel L xs h) (x : Int32) (y : Int32) (z : Int32) : ∃ r h1 h2, f_C_helper h 4 x y z = some (r, h1) ∧ f_M_helper h1 201 x y z = some (r, h2) ∧ P3 L xs h1 ∧ Rel L xs h2 := by
  have R0 := R
  obtain ⟨tn, pn, hn, rn, ev, ta, ts, pg, ha, hl, rt, rp, rh, rl, rr, rc, rj, rg, ra, dj, bd, p⟩ := R
  have hm := hl.2.2.2.2.2.2
  obtain ⟨r, h1, h2, e1, e2, alt⟩ := o_helper hl rh x y z
  refine ⟨r, h1, h2, e1, e2, k_C_helper p _ e1, ?_⟩
  rcases alt with e | ⟨h8, rh2, m2, z2, l2, f⟩
  · rw [e]; exact R0
  · have fm : ∀ T : Nat → Nat → Prop, (∀ a k, T a k → SHelp hn a k) → Ag T h h2 := fun T hT => f.mono hT
    have eI : ∀ a k, a < 237 → SHelp hn a k → hI h2 a k = hI h a k := fun a k l s => (f.2.2 a k (by omega) s).1
    have rg2 : RLog h2 (hn + 1) ev := rg.grow rh.1 (by omega) (eI 135 1 (by decide) (by unfold SHelp; omega)) (eI 201 17 (by decide) (by unfold SHelp; omega)) (eI 201 18 (by decide) (by unfold SHelp; omega)) (fun k => eI 212 k (by decide) (by unfold SHelp; omega)) (fun k => eI 213 k (by decide) (by unfold SHelp; omega)) (fun a k a1 a2 => (f.2.2 a k (by omega) (by unfold SHelp; omega)).2.1) (fun b b1 b2 s hs => eI b s (by omega) (by unfold SHelp; omega))
    refine ⟨tn, pn, hn + 1, rn, ev, ta, ts, pg, (fun s => if s = hn then hM h else ha s), l2, rt.ag hm (fm _ (by unfold FTalk SHelp; omega)), rp.ag hm (fm _ (by unfold FPage SHelp; omega)), rh2, rl.ag hm (fm _ (by unfold FLev SHelp; omega)), (rr.ag hm (fm _ (by unfold FRow SHelp; omega))).up (by omega), rc.ag hm (fm _ (by unfold FCnt SHelp; omega)), rj.ag hm (fm _ (by unfold FJoin SHelp; omega)), rg2, ra.ag hm (fm _ (by unfold FAd SHelp; omega)), ⟨fun s s' hs hs' ne => ?_, fun s t hs ht => ?_, dj.2.2⟩, ⟨by omega, by omega⟩, p.agm f (by intro k; unfold SHelp; omega)⟩
    · dsimp only
      by_cases a : s = hn
      · by_cases b : s' = hn
        · omega
        · have := (rh.2.2.2 s' (by omega)).2.2.1
          rw [if_pos a, if_neg b]; omega
      · by_cases b : s' = hn
        · have := (rh.2.2.2 s (by omega)).2.2.1
          rw [if_neg a, if_pos b]; omega
        · rw [if_neg a, if_neg b]; exact dj.1 s s' (by omega) (by omega) ne
    · dsimp only
      by_cases a : s = hn
      · have := (rt.2.2.2 t ht).2.2.2.1
        rw [if_pos a]; omega
      · rw [if_neg a]; exact dj.2.1 s t (by omega) ht
theorem r_talk (R : Rel L xs h) : ∃ r h1 h2, f_C_talk h 4 = some (r, h1) ∧ f_M_talk h1 201 = some (r, h2) ∧ P3 L xs h1 ∧ Rel L xs h2 := by
  obtain ⟨tn, pn, hn, rn, ev, ta, ts, pg, ha, hl, rt, rp, rh, rl, rr, rc, rj, rg, ra, dj, bd, p⟩ := R
  have hm := hl.2.2.2.2.2.2
  obtain ⟨r, h1, h2, e1, e2, alt⟩ := o_talk hl rt rp
  refine ⟨r, h1, h2, e1, e2, k_C_talk p _ e1, ?_⟩
  rcases alt with f0 | ⟨t6, ⟨n, n24, rt2⟩, m2, z2, l2, rp2, f⟩
  · have f := f0.fr
    have l2 := f0.lay hl
    exact ⟨tn, pn, hn, rn, ev, ta, ts, pg, ha, l2, rt.ag hm (f.ag (by unfold FTalk SRd SRc SRm; omega)), rp.ag hm (f.ag (by unfold FPage SRd SRc SRm; omega)), rh.ag hm (f.ag (by unfold FHelp SRd SRc SRm; omega)), rl.ag hm (f.ag (by unfold FLev SRd SRc SRm; omega)), rr.ag hm (f.ag (by unfold FRow SRd SRc SRm; omega)), rc.ag hm (f.ag (by unfold FCnt SRd SRc SRm; omega)), rj.ag hm (f.ag (by unfold FJoin SRd SRc SRm; omega)), rg.ag hm (f.ag (by unfold FLog SRd SRc SRm; omega)), ra.ag hm (f.ag (by unfold FAd SRd SRc SRm; omega)), dj, ⟨by rw [f.1]; exact bd.1, by rw [f.2.1]; exact bd.2⟩, p.frm f (by intro k; unfold SRd SRc SRm; omega)⟩
  · have fm : ∀ T : Nat → Nat → Prop, (∀ a k, T a k → ¬ STk tn a k) → Ag T h h2 := fun T hT => f.mono hT
    have eA : ∀ a k, a < 237 → ¬ STk tn a k → hI h2 a k = hI h a k ∧ hJ h2 a k = hJ h a k ∧ hR h2 a k = hR h a k := fun a k l s => f.2.2 a k (by omega) s
    have tl : ∀ t, t < tn → ta t + 3 < hM h := fun t ht => (rt.2.2.2 t ht).2.2.2.1
    have inj : ∀ t t', t < tn + 1 → t' < tn + 1 → (if t = tn then hM h else ta t) = (if t' = tn then hM h else ta t') → t = t' := by
      intro t t' h1 h2 e
      by_cases a : t = tn
      · by_cases b : t' = tn
        · omega
        · rw [if_pos a, if_neg b] at e; have := tl t' (by omega); omega
      · by_cases b : t' = tn
        · rw [if_neg a, if_pos b] at e; have := tl t (by omega); omega
        · rw [if_neg a, if_neg b] at e; exact ra.1 t t' (by omega) (by omega) e
    have ra2 : RAd h2 (tn + 1) (fun t => if t = tn then hM h else ta t) (fun t => if t = tn then n else ts t) := by
      refine ra.keep rt inj (by omega) (fun t ht => ⟨if_neg (by omega), if_neg (by omega)⟩) (fun t ht s hs => ⟨fun k hk => ?_, ?_⟩) (fun k => (eA 100 k (by decide) (by unfold STk SRd SRc SRm; omega)).2.2) (eA 100 1 (by decide) (by unfold STk SRd SRc SRm; omega)).1 (eA 100 5 (by decide) (by unfold STk SRd SRc SRm; omega)).1 (fun k => (eA 101 k (by decide) (by unfold STk SRd SRc SRm; omega)).1) (fun k => (eA 102 k (by decide) (by unfold STk SRd SRc SRm; omega)).1)
      · exact (eA 204 _ (by decide) (by unfold STk SRd SRc SRm; omega)).1
      · exact (eA 205 _ (by decide) (by unfold STk SRd SRc SRm; omega)).1
    refine ⟨tn + 1, 0, hn, rn, ev, _, _, pg, ha, l2, rt2, rp2, rh.ag hm (fm _ (by unfold FHelp STk SRd SRc SRm; omega)), rl.ag hm (fm _ (by unfold FLev STk SRd SRc SRm; omega)), rr.ag hm (fm _ (by unfold FRow STk SRd SRc SRm; omega)), rc.ag hm (fm _ (by unfold FCnt STk SRd SRc SRm; omega)), rj.ag hm (fm _ (by unfold FJoin STk SRd SRc SRm; omega)), rg.ag hm (fm _ (by unfold FLog STk SRd SRc SRm; omega)), ra2, ⟨dj.1, fun s t hs ht => ?_, fun t t' ht ht' ne => ?_⟩, ⟨by omega, by omega⟩, p.agm f (by intro k; unfold STk SRd SRc SRm; omega)⟩
    · dsimp only
      by_cases a : t = tn
      · have := (rh.2.2.2 s hs).2.2.1
        rw [if_pos a]; omega
      · rw [if_neg a]; exact dj.2.1 s t hs (by omega)
    · dsimp only
      by_cases a : t = tn
      · by_cases b : t' = tn
        · omega
        · rw [if_pos a, if_neg b]; have := tl t' (by omega); omega
      · by_cases b : t' = tn
        · rw [if_neg a, if_pos b]; have := tl t (by omega); omega
        · rw [if_neg a, if_neg b]; exact dj.2.2 t t' (by omega) (by omega) ne
end RE
