/-- on every script the law's function answers 1, within the room -/
theorem law_true : ∀ (L : Nat) (xs : Nat → Int32), L ≤ 2560 → ∃ hF, f_L_law (h00 L xs) (some 3) = some (1, hF) ∧ hM hF ≤ 600004 ∧ hZ hF ≤ 7302250 := by
  intro L xs hL
  obtain ⟨h1, h2, e1, m1, e2, R⟩ := rel_init L xs
  obtain ⟨⟨r, hF⟩, e3, q, RF⟩ := law_loop hL FU 0 h2 R (by omega) (by unfold FU; omega)
  dsimp only at q RF
  subst q
  obtain ⟨tn, pn, hn, rn, ev, ta, ts, pg, ha, hl, rt, rp, rh, rl, rr, rc, rj, rg, ra, dj, bd, p⟩ := RF
  have t6 := rt.1
  have h8 := rh.1
  refine ⟨hF, ?_, by omega, by omega⟩
  rw [f_L_law, show hM (h00 L xs) = 4 from rfl, e1, ob_v, m1, e2, ob_v]
  exact e3
theorem whole_start {p : Program} {e : Env} {s : State} {m : MethodId} {below : List Frame} {meth : Method} {c : Code} (l : Launch) {b L : Nat} {xs : Nat → Int32} (hL : L ≤ 2560) (C0 : lw_At p s m meth c b L xs) : W p l e room_1 s m #[Value.ref b] below meth c s.heap [] 0 0 (lw_Z below #[Value.ref b] s) (entryFrame m ([Value.ref b] : List Value).toArray 4) := law_start law_true l hL C0
