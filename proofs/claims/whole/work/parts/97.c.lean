/-! the class looks whether a place agrees -/
def orA (P : Nat → Bool) (d : Nat → Nat) : Nat → Nat
  | 0 => 0
  | q + 1 => if P q = true then orA P d q ||| 2 ^ d q else orA P d q
theorem orA_bit (P : Nat → Bool) (d : Nat → Nat) (z : Nat) : ∀ q, (orA P d q).testBit z = true ↔ ∃ k, k < q ∧ P k = true ∧ d k = z
  | 0 => by
    simp only [orA, Nat.zero_testBit]
    exact ⟨fun z => (by cases z), fun ⟨k, a, _⟩ => by omega⟩
  | q + 1 => by
    have ih := orA_bit P d z q
    simp only [orA]
    by_cases c : P q = true
    · rw [if_pos c, tb_or, ih]
      constructor
      · rintro (⟨k, a, b⟩ | e)
        · exact ⟨k, by omega, b⟩
        · exact ⟨q, by omega, c, e.symm⟩
      · rintro ⟨k, a, b, e⟩
        by_cases kq : k = q
        · subst kq; exact Or.inr e.symm
        · exact Or.inl ⟨k, by omega, b, e⟩
    · rw [if_neg c, ih]
      constructor
      · rintro ⟨k, a, b⟩; exact ⟨k, by omega, b⟩
      · rintro ⟨k, a, b, e⟩
        by_cases kq : k = q
        · subst kq; exact absurd b c
        · exact ⟨k, by omega, b, e⟩
theorem orA_lt {P : Nat → Bool} {d : Nat → Nat} : ∀ q, (∀ k, k < q → P k = true → d k < 8) → orA P d q < 2 ^ 8
  | 0, _ => by show 0 < 2 ^ 8; decide
  | q + 1, h => by
    have ih := orA_lt q (fun k a b => h k (by omega) b)
    simp only [orA]
    by_cases c : P q = true
    · rw [if_pos c]; exact or_lt ih (Nat.pow_lt_pow_right (by decide) (h q (by omega) c))
    · rw [if_neg c]; exact ih
theorem bit01 {X i : Nat} (hX : X < 2 ^ 31) (hi : i < 31) : ((nI X >>> (nI i &&& 31)) &&& 1) = bI (X.testBit i) := by
  rw [bit_nI hX hi]
  have l2 : X / 2 ^ i % 2 < 2 := Nat.mod_lt _ (by decide)
  have e := Nat.testBit_eq_decide_div_mod_eq (x := X) (i := i)
  by_cases q : X / 2 ^ i % 2 = 1
  · rw [e, decide_eq_true q, q]; rfl
  · rw [e, decide_eq_false q, show X / 2 ^ i % 2 = 0 by omega]; rfl
theorem sh_bI {b : Bool} {d A : Nat} (hd : d < 8) : nI A ||| (bI b <<< (nI d &&& 31)) = nI (if b = true then A ||| 2 ^ d else A) := by
  cases b with
  | true => rw [if_pos rfl, show bI true = 1 from rfl, shl1 (by omega), nI_or]
  | false =>
    have z : ∀ d, d < 8 → (bI false <<< (nI d &&& 31)) = nI 0 := by decide
    rw [if_neg (by decide), z d hd, nI_or, Nat.or_zero]
theorem ad_bI (c : Nat) (b : Bool) : nI c + bI b = nI (c + if b = true then 1 else 0) := by
  cases b with
  | true => exact nI_add c 1
  | false => exact nI_add c 0
theorem sub8 {A B : Nat} (hA : A < 256) (hB : B < 256) : (nI A &&& (nI B ^^^ (-1 : Int32)) = 0) ↔ ∀ z, z < 8 → A.testBit z = true → B.testBit z = true := by
  rw [need_nI (by omega) (by omega)]
  constructor
  · intro e z z8 q
    rw [← e, Nat.testBit_and, Bool.and_eq_true] at q
    exact q.2
  · intro e
    refine bits8 (Nat.lt_of_le_of_lt Nat.and_le_left hA) hA (fun i hi => ?_)
    rw [Nat.testBit_and]
    cases q : A.testBit i with
    | false => rfl
    | true => rw [e i hi q]; rfl
theorem not12 : ∀ B, B < 256 → ∀ z, z < 8 → (4095 - B).testBit z = !B.testBit z := by decide +kernel
def bc8 (p1 : Int32) : Int32 :=
  let x1 := p1 - ((xushr p1 (1 : Int32)) &&& (1431655765 : Int32))
  let x2 := (x1 &&& (858993459 : Int32)) + ((xushr x1 (2 : Int32)) &&& (858993459 : Int32))
  let x3 := (x2 + (xushr x2 (4 : Int32))) &&& (252645135 : Int32)
  let x4 := x3 + (xushr x3 (8 : Int32))
  let x5 := x4 + (xushr x4 (16 : Int32))
  x5 &&& (63 : Int32)
theorem bc8_v : ∀ X, X < 256 → bc8 (nI X) = nI (cnS (fun z => X.testBit z) 8) := by decide +kernel
theorem bc_v (h : AH) {X : Nat} (hX : X < 256) : f_jI_bitCount h (nI X) = some (nI (cnS (fun z => X.testBit z) 8)) := by
  rw [← bc8_v X hX]; rfl
theorem bc_cut (h : AH) {A B : Nat} (hA : A < 256) (hB : B < 256) : f_jI_bitCount h (nI A &&& (nI B ^^^ (-1 : Int32))) = some (nI (cnS (fun z => A.testBit z && !B.testBit z) 8)) := by
  rw [cut_nI (by omega) (by omega), bc_v h (Nat.lt_of_le_of_lt Nat.and_le_left hA)]
  congr 2
  exact cnS_cong 8 (fun i hi => by rw [Nat.testBit_and, not12 B hB i hi])
theorem zero8 {A : Nat} (hA : A < 256) : A = 0 ↔ ∀ z, z < 8 → ¬ A.testBit z = true := by
  constructor
  · intro e z _ q; rw [e, Nat.zero_testBit] at q; cases q
  · intro e
    refine bits8 hA (by decide) (fun i hi => ?_)
    rw [Nat.zero_testBit]
    cases q : A.testBit i with
    | false => rfl
    | true => exact absurd q (e i hi)
section AA
variable {h g : AH} {x y a b n m w : Nat} {ms d : Nat → Nat} {k0 : Nat} {Pd X : Nat → Nat → Prop} {T : Nat}
theorem loopA (lg : Lay g) (F : AdF g x y a b n m w ms d k0) {i j : Nat} (hi : i ≤ n) {ρ : Type} (kk : Int32 → Int32 → Int32 → Int32 → Int32 → Option ρ) : ∀ e q N, q + e = w → e < N →
    f_Ad_agreeAt_L17 g 100 (nI i) (nI j) kk N (nI (orA (fun k => decide (k < k0) && decide (¬ sX g x i (ms k) = -1)) d q)) (nI (orA (fun k => decide (k < k0) && decide (¬ hX g x i (ms k) = -1)) d q)) (nI (cnS (fun k => decide (k0 ≤ k) && decide (¬ sX g x i (ms k) = -1)) q)) (nI (cnS (fun k => decide (k0 ≤ k) && decide (¬ hX g x i (ms k) = -1)) q)) (nI (orA (fun k => decide (k < k0)) d q)) (nI q)
    = kk (nI (orA (fun k => decide (k < k0) && decide (¬ sX g x i (ms k) = -1)) d w)) (nI (orA (fun k => decide (k < k0) && decide (¬ hX g x i (ms k) = -1)) d w)) (nI (cnS (fun k => decide (k0 ≤ k) && decide (¬ sX g x i (ms k) = -1)) w)) (nI (cnS (fun k => decide (k0 ≤ k) && decide (¬ hX g x i (ms k) = -1)) w)) (nI (orA (fun k => decide (k < k0)) d w)) := by
  obtain ⟨⟨G1, G2, G3, G4⟩, G5, G6, G7, G8, G9⟩ := F
  intro e
  induction e with
  | zero =>
    intro q N h1 h2
    obtain ⟨N, rfl⟩ : ∃ q, N = q + 1 := ⟨N - 1, by omega⟩
    have : q = w := by omega
    subst this
    rw [f_Ad_agreeAt_L17, gI_n (c := 1) (kk100 lg), ob_v, G5, if_neg (nI_nlt (Nat.le_refl q) (by omega))]
  | succ e ih =>
    intro q N h1 h2
    obtain ⟨N, rfl⟩ : ∃ q, N = q + 1 := ⟨N - 1, by omega⟩
    obtain ⟨u1, u2, u3⟩ := G8 q (by omega)
    have s256 := sys_lt g x i
    have h256 := hrs_lt g x i
    have b1 : ((nI (sys g x i) >>> (nI (ms q) &&& 31)) &&& 1) = bI (decide (¬ sX g x i (ms q) = -1)) := by rw [bit01 (by omega) (by omega), sys_bit g x i u1]; rfl
    have b2 : ((nI (hrs g x i) >>> (nI (ms q) &&& 31)) &&& 1) = bI (decide (¬ hX g x i (ms q) = -1)) := by rw [bit01 (by omega) (by omega), hrs_bit g x i u1]; rfl
    rw [f_Ad_agreeAt_L17, gI_n (c := 1) (kk100 lg), ob_v, G5, if_pos (nI_lt (show q < w by omega) (by omega))]
    simp only [gR_n (c := 1) (kk100 lg), LR lg, ob_v, rI_n (kk102 lg) (show q < 5 by omega) (by decide), u2, G3, (G1.says hi).1, (G1.says hi).2, (G1.hears hi).1, (G1.hears hi).2, rI_n (kk103 lg) u1 (by decide), u3, b1, b2]
    by_cases qk : q < k0
    · have d8 := G9 q qk
      rw [if_pos qk, if_neg (nI_nm1 (by omega)), sh_bI d8, sh_bI d8, shl1 (by omega), nI_or, nI_1]
      have := ih (q + 1) N (by omega) (by omega)
      simp only [orA, cnS, decide_eq_true qk, decide_eq_false (show ¬ k0 ≤ q by omega), Bool.true_and, Bool.false_and, if_true] at this
      simpa using this
    · rw [if_neg qk, if_pos rfl, ad_bI, ad_bI, nI_1]
      have := ih (q + 1) N (by omega) (by omega)
      simp only [orA, cnS, decide_eq_false qk, decide_eq_true (show k0 ≤ q by omega), Bool.true_and, Bool.false_and] at this
      simpa using this
theorem agreeAt_C (lg : Lay g) (F : AdF g x y a b n m w ms d k0) {i j : Nat} (hi : i ≤ n) (hj : j ≤ m) : (AgAt (sX g x) (hX g x) (sX g y) (hX g y) (en g x) (en g y) w ms d k0 i j → f_Ad_agreeAt g 100 (nI i) (nI j) = some 1) ∧ (¬ AgAt (sX g x) (hX g x) (sX g y) (hX g y) (en g x) (en g y) w ms d k0 i j → f_Ad_agreeAt g 100 (nI i) (nI j) = some 0) := by
  obtain ⟨⟨G1, G2, G3, G4⟩, G5, G6, G7, G8, G9⟩ := id F
  obtain ⟨sd, esd⟩ : ∃ sd, sd = orA (fun k => decide (k < k0) && decide (¬ sX g x i (ms k) = -1)) d w := ⟨_, rfl⟩
  obtain ⟨hd, ehd⟩ : ∃ hd, hd = orA (fun k => decide (k < k0) && decide (¬ hX g x i (ms k) = -1)) d w := ⟨_, rfl⟩
  obtain ⟨tk, etk⟩ : ∃ tk, tk = orA (fun k => decide (k < k0)) d w := ⟨_, rfl⟩
  obtain ⟨os, eos⟩ : ∃ os, os = cnS (fun k => decide (k0 ≤ k) && decide (¬ sX g x i (ms k) = -1)) w := ⟨_, rfl⟩
  obtain ⟨oh, eoh⟩ : ∃ oh, oh = cnS (fun k => decide (k0 ≤ k) && decide (¬ hX g x i (ms k) = -1)) w := ⟨_, rfl⟩
  have osl : os ≤ w := by rw [eos]; exact cnS_le _ _
  have ohl : oh ≤ w := by rw [eoh]; exact cnS_le _ _
  have sdl : sd < 256 := by rw [esd]; exact orA_lt w (fun k kw q => by simp only [Bool.and_eq_true, decide_eq_true_eq] at q; exact G9 k q.1)
  have hdl : hd < 256 := by rw [ehd]; exact orA_lt w (fun k kw q => by simp only [Bool.and_eq_true, decide_eq_true_eq] at q; exact G9 k q.1)
  have tkl : tk < 256 := by rw [etk]; exact orA_lt w (fun k kw q => by simp only [decide_eq_true_eq] at q; exact G9 k q)
  have sdb : ∀ z, sd.testBit z = true ↔ ∃ k, k < k0 ∧ ¬ sX g x i (ms k) = -1 ∧ d k = z := fun z => by
    rw [esd, orA_bit]
    simp only [Bool.and_eq_true, decide_eq_true_eq]
    exact ⟨fun ⟨k, a, ⟨b, c⟩, e⟩ => ⟨k, b, c, e⟩, fun ⟨k, b, c, e⟩ => ⟨k, by omega, ⟨b, c⟩, e⟩⟩
  have hdb : ∀ z, hd.testBit z = true ↔ ∃ k, k < k0 ∧ ¬ hX g x i (ms k) = -1 ∧ d k = z := fun z => by
    rw [ehd, orA_bit]
    simp only [Bool.and_eq_true, decide_eq_true_eq]
    exact ⟨fun ⟨k, a, ⟨b, c⟩, e⟩ => ⟨k, b, c, e⟩, fun ⟨k, b, c, e⟩ => ⟨k, by omega, ⟨b, c⟩, e⟩⟩
  have tkb : ∀ z, tk.testBit z = tkn d k0 z := fun z => by
    have : tk.testBit z = true ↔ tkn d k0 z = true := by
      rw [etk, orA_bit, tkn_iff]
      simp only [decide_eq_true_eq]
      exact ⟨fun ⟨k, a, b, e⟩ => ⟨k, b, e⟩, fun ⟨k, b, e⟩ => ⟨k, by omega, b, e⟩⟩
    exact Bool.eq_iff_iff.mpr this
  have hBl := hrs_lt g y j
  have sBl := sys_lt g y j
  have sAl := sys_lt g x i
  have hBb : ∀ z, z < 8 → (hrs g y j).testBit z = decide (¬ hX g y j z = -1) := fun z z8 => hrs_bit g y j z8
  have sBb : ∀ z, z < 8 → (sys g y j).testBit z = decide (¬ sX g y j z = -1) := fun z z8 => sys_bit g y j z8
  have sAb : ∀ z, z < 8 → (sys g x i).testBit z = decide (¬ sX g x i z = -1) := fun z z8 => sys_bit g x i z8
  have c3 : cnS (fun z => (hrs g y j).testBit z && !tk.testBit z) 8 = cnS (fun z => decide (¬ hX g y j z = -1) && !tkn d k0 z) 8 := cnS_cong 8 (fun z z8 => by rw [hBb z z8, tkb])
  have c4 : cnS (fun z => (sys g y j).testBit z && !tk.testBit z) 8 = cnS (fun z => decide (¬ sX g y j z = -1) && !tkn d k0 z) 8 := cnS_cong 8 (fun z z8 => by rw [sBb z z8, tkb])
  obtain ⟨nb, enb⟩ : ∃ nb, nb = cnS (fun z => decide (¬ hX g y j z = -1) && !tkn d k0 z) 8 := ⟨_, rfl⟩
  obtain ⟨ns, ens⟩ : ∃ ns, ns = cnS (fun z => decide (¬ sX g y j z = -1) && !tkn d k0 z) 8 := ⟨_, rfl⟩
  have nb8 : nb ≤ 8 := by rw [enb]; exact cnS_le _ _
  have ns8 : ns ≤ 8 := by rw [ens]; exact cnS_le _ _
  have a1 : (nI sd &&& (nI (hrs g y j) ^^^ (-1 : Int32)) = 0) ↔ (∀ k, k < k0 → ¬ sX g x i (ms k) = -1 → ¬ hX g y j (d k) = -1) := by
    rw [sub8 sdl hBl]
    constructor
    · intro e k kk q
      have := e (d k) (G9 k kk) ((sdb _).mpr ⟨k, kk, q, rfl⟩)
      rw [hBb _ (G9 k kk), decide_eq_true_eq] at this
      exact this
    · intro e z z8 q
      obtain ⟨k, q1, q2, q3⟩ := (sdb z).mp q
      rw [hBb z z8, decide_eq_true_eq, ← q3]
      exact e k q1 q2
  have a2 : ((nI (sys g y j) &&& nI tk) &&& (nI hd ^^^ (-1 : Int32)) = 0) ↔ (∀ z, z < 8 → ¬ sX g y j z = -1 → tkn d k0 z = true → ∃ k, k < k0 ∧ d k = z ∧ ¬ hX g x i (ms k) = -1) := by
    rw [nI_and, sub8 (Nat.lt_of_le_of_lt Nat.and_le_left sBl) hdl]
    constructor
    · intro e z z8 q t
      have := e z z8 (by rw [Nat.testBit_and, sBb z z8, tkb, t, decide_eq_true q]; rfl)
      obtain ⟨k, q1, q2, q3⟩ := (hdb z).mp this
      exact ⟨k, q1, q3, q2⟩
    · intro e z z8 q
      rw [Nat.testBit_and, sBb z z8, tkb, Bool.and_eq_true, decide_eq_true_eq] at q
      obtain ⟨k, q1, q2, q3⟩ := e z z8 q.1 q.2
      exact (hdb z).mpr ⟨k, q1, q3, q2⟩
  have a5 : (nI (sys g x i) ||| nI (sys g y j) = 0) ↔ ¬ ((∃ k, k < 8 ∧ ¬ sX g x i k = -1) ∨ (∃ k, k < 8 ∧ ¬ sX g y j k = -1)) := by
    have ol : sys g x i ||| sys g y j < 2 ^ 8 := or_lt sAl sBl
    rw [nI_or, show (0 : Int32) = nI 0 from rfl, nI_eq (by omega) (by decide), zero8 ol]
    constructor
    · rintro e (⟨k, k8, q⟩ | ⟨k, k8, q⟩)
      · exact e k k8 (by rw [Nat.testBit_or, sAb k k8, decide_eq_true q]; rfl)
      · exact e k k8 (by rw [Nat.testBit_or, sBb k k8, decide_eq_true q, Bool.or_true])
    · intro e z z8 q
      rw [Nat.testBit_or, sAb z z8, sBb z z8, Bool.or_eq_true, decide_eq_true_eq, decide_eq_true_eq] at q
      exact e (q.imp (fun q => ⟨z, z8, q⟩) (fun q => ⟨z, z8, q⟩))
  have E1 : f_Ta_mayEnd g a (nI i) = some (en g x i) := by
    have T := G1
    have h24 := T.1
    have h1 := msk_lt (fun s => decide (en g x s = 1)) (n + 1)
    have h2 : 2 ^ (n + 1) ≤ 2 ^ 25 := Nat.pow_le_pow_right (by decide) (by omega)
    simp only [f_Ta_mayEnd, gI_n (c := 9) T.2.2.2.1.1, Option.bind_some, T.2.2.2.2.2.2.2.2.2.1]
    have hb := bit_0 (n := msk (fun s => decide (en g x s = 1)) (n + 1)) (i := i) (by omega) (by omega)
    rw [msk_bit] at hb
    rcases T.en01 hi with q | q
    · rw [if_pos (hb.mpr (by rw [q]; simp)), q]
    · rw [if_neg (fun z => by have := hb.mp z; rw [q] at this; simp at this; omega), q]
  have E2 : f_Ta_mayEnd g b (nI j) = some (en g y j) := by
    have T := G2
    have h24 := T.1
    have h1 := msk_lt (fun s => decide (en g y s = 1)) (m + 1)
    have h2 : 2 ^ (m + 1) ≤ 2 ^ 25 := Nat.pow_le_pow_right (by decide) (by omega)
    simp only [f_Ta_mayEnd, gI_n (c := 9) T.2.2.2.1.1, Option.bind_some, T.2.2.2.2.2.2.2.2.2.1]
    have hb := bit_0 (n := msk (fun s => decide (en g y s = 1)) (m + 1)) (i := j) (by omega) (by omega)
    rw [msk_bit] at hb
    rcases T.en01 hj with q | q
    · rw [if_pos (hb.mpr (by rw [q]; simp)), q]
    · rw [if_neg (fun z => by have := hb.mp z; rw [q] at this; simp at this; omega), q]
  have bb1 := bc_cut g hBl tkl
  have bb2 := bc_cut g sBl tkl
  rw [c3, ← enb] at bb1
  rw [c4, ← ens] at bb2
  have main : f_Ad_agreeAt g 100 (nI i) (nI j) = (if nI sd &&& (nI (hrs g y j) ^^^ (-1 : Int32)) = 0 then if (nI (sys g y j) &&& nI tk) &&& (nI hd ^^^ (-1 : Int32)) = 0 then if nI nb < nI os then some 0 else if nI oh < nI ns then some 0 else if nI (sys g x i) ||| nI (sys g y j) = 0 then if en g x i = 0 then some 0 else if en g y j = 0 then some 0 else some 1 else some 1 else some 0 else some 0) := by
    have L := fun {ρ : Type} (kk : Int32 → Int32 → Int32 → Int32 → Int32 → Option ρ) => loopA (j := j) lg F hi kk w 0 FU (by omega) (by unfold FU; omega)
    unfold f_Ad_agreeAt
    refine (L _).trans ?_
    rw [← esd, ← ehd, ← etk, ← eos, ← eoh]
    simp only [gR_n (c := 1) (kk100 lg), G3, G4, ob_v, (G2.hears hj).1, (G2.hears hj).2, (G2.says hj).1, (G2.says hj).2, (G1.says hi).1, (G1.says hi).2, bb1, bb2, cv_n (c := 9) G1.2.2.2.1.1, cv_n (c := 9) G2.2.2.2.1.1, E1, E2]
  unfold AgAt
  rw [main, ← eos, ← eoh, ← enb, ← ens]
  have i3 : (nI nb < nI os) ↔ ¬ os ≤ nb := by rw [nI_ltI (by omega) (by omega)]; omega
  have i4 : (nI oh < nI ns) ↔ ¬ ns ≤ oh := by rw [nI_ltI (by omega) (by omega)]; omega
  refine ⟨fun ⟨q1, q2, q3, q4, q5⟩ => ?_, fun nq => ?_⟩
  · rw [if_pos (a1.mpr q1), if_pos (a2.mpr q2), if_neg (fun z => i3.mp z q3), if_neg (fun z => i4.mp z q4)]
    by_cases z : nI (sys g x i) ||| nI (sys g y j) = 0
    · rw [if_pos z]
      have z' := a5.mp z
      rcases q5 with q | q | ⟨e1, e2⟩
      · exact absurd (Or.inl q) z'
      · exact absurd (Or.inr q) z'
      · rw [e1, e2]; rfl
    · rw [if_neg z]
  · by_cases q1 : nI sd &&& (nI (hrs g y j) ^^^ (-1 : Int32)) = 0
    · rw [if_pos q1]
      by_cases q2 : (nI (sys g y j) &&& nI tk) &&& (nI hd ^^^ (-1 : Int32)) = 0
      · rw [if_pos q2]
        by_cases q3 : nI nb < nI os
        · rw [if_pos q3]
        · rw [if_neg q3]
          by_cases q4 : nI oh < nI ns
          · rw [if_pos q4]
          · rw [if_neg q4]
            have r3 : os ≤ nb := Classical.byContradiction (fun z => q3 (i3.mpr z))
            have r4 : ns ≤ oh := Classical.byContradiction (fun z => q4 (i4.mpr z))
            by_cases q5 : nI (sys g x i) ||| nI (sys g y j) = 0
            · rw [if_pos q5]
              rcases G1.en01 hi with e1 | e1
              · rw [if_pos e1]
              · rcases G2.en01 hj with e2 | e2
                · rw [if_neg (by rw [e1]; decide), if_pos e2]
                · exact absurd ⟨a1.mp q1, a2.mp q2, r3, r4, Or.inr (Or.inr ⟨e1, e2⟩)⟩ nq
            · exfalso
              have : (∃ k, k < 8 ∧ ¬ sX g x i k = -1) ∨ (∃ k, k < 8 ∧ ¬ sX g y j k = -1) := Classical.byContradiction (fun z => q5 (a5.mpr z))
              rcases this with t | t
              · exact nq ⟨a1.mp q1, a2.mp q2, r3, r4, Or.inl t⟩
              · exact nq ⟨a1.mp q1, a2.mp q2, r3, r4, Or.inr (Or.inl t)⟩
      · rw [if_neg q2]
    · rw [if_neg q1]
theorem agree_C (hl : Lay h) (F : AdF h x y a b n m w ms d k0) : OK (f_Ad_agree h 100) (fun q => Dfr SAg h q.2 ∧ ((q.1 = 1 ∧ AllAg (sX h x) (hX h x) (sX h y) (hX h y) (en h x) (en h y) w ms d k0) ∨ (q.1 = 0 ∧ ¬ AllAg (sX h x) (hX h x) (sX h y) (hX h y) (en h x) (en h y) w ms d k0))) := by
  obtain ⟨⟨T1, T2, F3, F4⟩, F5, F6, F7, F8, F9⟩ := id F
  have n24 := T1.1
  have m24 := T2.1
  have loop : ∀ e T N (g : AH) (Pd X : Nat → Nat → Prop), T + e = 625 → e < N → AG h g n m Pd X T → X 0 0 → (∀ i j, X i j → Rp (sX h x) (hX h x) (sX h y) (hX h y) ms d k0 i j) → (∀ i j, Pd i j → AgAt (sX h x) (hX h x) (sX h y) (hX h y) (en h x) (en h y) w ms d k0 i j ∧ ∀ i' j', StpA (sX h x) (hX h x) (sX h y) (hX h y) ms d k0 i j i' j' → X i' j') → OK (f_Ad_agree_L21 100 N (nI T) g) (fun q => Dfr SAg h q.2 ∧ ((q.1 = 1 ∧ AllAg (sX h x) (hX h x) (sX h y) (hX h y) (en h x) (en h y) w ms d k0) ∨ (q.1 = 0 ∧ ¬ AllAg (sX h x) (hX h x) (sX h y) (hX h y) (en h x) (en h y) w ms d k0))) := by
    have fin : ∀ (g : AH) (Pd X : Nat → Nat → Prop), Dfr SAg h g → X 0 0 → (∀ i j, Pd i j → AgAt (sX h x) (hX h x) (sX h y) (hX h y) (en h x) (en h y) w ms d k0 i j ∧ ∀ i' j', StpA (sX h x) (hX h x) (sX h y) (hX h y) ms d k0 i j i' j' → X i' j') → (∀ i j, X i j → Pd i j) → OK (some ((1 : Int32), g)) (fun q => Dfr SAg h q.2 ∧ ((q.1 = 1 ∧ AllAg (sX h x) (hX h x) (sX h y) (hX h y) (en h x) (en h y) w ms d k0) ∨ (q.1 = 0 ∧ ¬ AllAg (sX h x) (hX h x) (sX h y) (hX h y) (en h x) (en h y) w ms d k0))) := by
      intro g Pd X f X0 P cov
      refine OK.mk ⟨f, Or.inl ⟨rfl, fun i j r => ?_⟩⟩
      exact (P i j (cov i j (r X X0 (fun i j i' j' q s => (P i j (cov i j q)).2 i' j' s)))).1
    intro e
    induction e with
    | zero =>
      intro T N g Pd X h1 h2 A X0 XR P
      obtain ⟨N, rfl⟩ : ∃ q, N = q + 1 := ⟨N - 1, by omega⟩
      obtain ⟨R, wc, W, f, r1, r2, r3, r4, r5, r6, r7⟩ := A
      have c := cnS_le (fun c => R (c / 25) (c % 25)) 625
      rw [f_Ad_agree_L21, if_neg (show ¬ nI T < 625 from nI_nlt (b := 625) (by omega) (by omega))]
      refine fin g Pd X f X0 P (fun i j q => ?_)
      rcases r7 i j q with z | ⟨k, z, _⟩
      · exact z
      · omega
    | succ e ih =>
      intro T N g Pd X h1 h2 A X0 XR P
      obtain ⟨N, rfl⟩ : ∃ q, N = q + 1 := ⟨N - 1, by omega⟩
      obtain ⟨R, wc, W, f, r1, r2, r3, r4, r5, r6, r7⟩ := A
      have lg := f.lay hl
      have c := cnS_le (fun c => R (c / 25) (c % 25)) 625
      rw [f_Ad_agree_L21, if_pos (show nI T < 625 from nI_lt (b := 625) (by omega) (by decide)), gI_n (c := 1) (kk100 lg), ob_v, r2]
      cases wc with
      | zero =>
        rw [if_neg (show ¬ (0 : Int32) < nI 0 by decide)]
        refine fin g Pd X f X0 P (fun i j q => ?_)
        rcases r7 i j q with z | ⟨k, z, _⟩
        · exact z
        · omega
      | succ v =>
        obtain ⟨t1, t2⟩ := r3 v (by omega)
        obtain ⟨i, ei⟩ : ∃ i, i = (W v).1 := ⟨_, rfl⟩
        obtain ⟨j, ej⟩ : ∃ j, j = (W v).2 := ⟨_, rfl⟩
        rw [← ei, ← ej] at t1 t2
        have Xij := (r5 i j).mp t2
        obtain ⟨hi, hj⟩ := r6 i j Xij
        obtain ⟨g7, e7⟩ : ∃ g7, g7 = uI g 100 10 (nI v) := ⟨_, rfl⟩
        have f7 : Dfr SAg g g7 := by rw [e7]; exact Dfr.uI (by decide) (by unfold SAg; omega)
        have F7' := f.trans f7
        have l7 := f7.lay lg
        have w7 : pI 1 g 100 10 (nI v) = some g7 := by rw [e7]; exact pI_n (c := 1) (kk100 lg)
        have v7 : hI g7 100 10 = nI v := by rw [e7, hI_eq]
        have o7 : ∀ a k, ¬ (a = 100 ∧ k = 10) → hI g7 a k = hI g a k := fun a k z => by rw [e7, hI_ne z]
        have A7 : AG h g7 n m (fun a b => Pd a b ∨ (a = i ∧ b = j)) X (T + 1) := by
          refine ⟨R, v, W, F7', fun a ha => by rw [o7 _ _ (by omega)]; exact r1 a ha, v7, fun k hk => by rw [o7 _ _ (by omega)]; exact r3 k (by omega), by omega, r5, r6, fun a b q => ?_⟩
          rcases r7 a b q with z | ⟨k, z1, z2⟩
          · exact Or.inl (Or.inl z)
          · by_cases kv : k = v
            · subst kv
              rw [z2] at ei ej
              exact Or.inl (Or.inr ⟨ei.symm, ej.symm⟩)
            · exact Or.inr ⟨k, by omega, z2⟩
        have u1 : nI (i + 32 * j) &&& 31 = nI i := by
          have := pk_andN (n := i + 32 * j) (m := 31) (by omega) 5 (by decide)
          rw [show (i + 32 * j) % 2 ^ 5 = i by omega] at this; exact this
        have u2 : nI (i + 32 * j) >>> ((5 : Int32) &&& 31) = nI j := by
          have := pk_shrN (n := i + 32 * j) (by omega) ((5 : Int32) &&& 31) 5 (by decide)
          rw [show (i + 32 * j) / 2 ^ 5 = j by omega] at this; exact this
        have t7 : hI g7 106 v = nI (i + 32 * j) := by rw [o7 _ _ (by omega)]; exact t1
        rw [if_pos (show (0 : Int32) < nI (v + 1) from nI_lt (a := 0) (by omega) (by omega))]
        simp only [nI_pred, ob_v, w7, gR_n (c := 1) (kk100 l7), gI_n (c := 1) (kk100 l7), LR l7, v7, rI_n (kk106 l7) (show v < 625 by omega) (by decide), t7, u1, u2, cv_n (c := 1) (kk100 l7)]
        have F7g := F.fr hl F7'
        obtain ⟨ag1, ag2⟩ := agreeAt_C l7 F7g hi hj
        obtain ⟨sxe, hxe⟩ := sag_m F7'
        rw [sxe, hxe, sag_en F7'] at ag1 ag2
        by_cases q : AgAt (sX h x) (hX h x) (sX h y) (hX h y) (en h x) (en h y) w ms d k0 i j
        · rw [ag1 q, ob_v, if_neg (show ¬ (1 : Int32) = 0 by decide)]
          unfold f_Ad_passFrom
          refine OK.bind (OK.mono (passA hl F hi hj w 0 FU g7 X (by omega) (by unfold FU; omega) A7) (fun g8 A8 => ?_))
          rw [nI_1]
          refine ih (T + 1) N g8 _ _ (by omega) (by omega) A8 (Or.inl X0) (fun i' j' z => ?_) (fun i' j' z => ?_)
          · rcases z with z | ⟨k, z1, z2, z3, z4⟩
            · exact XR i' j' z
            · exact (XR i j Xij).s ⟨k, z3, z4⟩
          · rcases z with z | z
            · exact ⟨(P i' j' z).1, fun a' b' s => Or.inl ((P i' j' z).2 a' b' s)⟩
            · rw [z.1, z.2]
              refine ⟨q, fun a' b' s => ?_⟩
              obtain ⟨k, s1, s2⟩ := s
              exact Or.inr ⟨k, by omega, by omega, s1, s2⟩
        · rw [ag2 q, ob_v, if_pos rfl]
          exact OK.mk ⟨F7', Or.inr ⟨rfl, fun z => q (z i j (XR i j Xij))⟩⟩
  obtain ⟨g1, e1, f1, v1⟩ := fillI (h := h) 105 0 (by decide) (kk105 hl) (by decide)
  have F1 : Dfr SAg h g1 := f1.mono (fun a k z => by unfold SAg; omega)
  have l1 := f1.lay hl
  obtain ⟨g2, e2⟩ : ∃ g2, g2 = uI g1 100 10 0 := ⟨_, rfl⟩
  have f2 : Dfr SAg g1 g2 := by rw [e2]; exact Dfr.uI (by decide) (by unfold SAg; omega)
  have l2 := f2.lay l1
  have w2 : pI 1 g1 100 10 0 = some g2 := by rw [e2]; exact pI_n (c := 1) (kk100 l1)
  have mz : msk (fun _ => false) 25 = 0 := by decide
  have A2 : AG h g2 n m (fun _ _ => False) (fun _ _ => False) 0 := by
    refine ⟨fun _ _ => false, 0, fun _ => (0, 0), F1.trans f2, fun i hi => ?_, by rw [e2, hI_eq]; rfl, fun k hk => by omega, ?_, fun i j => ⟨fun z => (by cases z), False.elim⟩, fun i j z => z.elim, fun i j z => z.elim⟩
    · rw [e2, hI_ne (by omega), v1 i hi, mz]; rfl
    · rw [cnS_0 625 (fun i _ => rfl)]
  rw [f_Ad_agree, gR_n (c := 1) (kk100 hl), ob_v]
  simp only [LR hl]
  rw [e1, ob_v, w2, ob_v, cv_n (c := 1) (kk100 l2)]
  refine OK.bind (OK.mono (reach_Ad (i := 0) (j := 0) hl A2 n24 m24 (Nat.zero_le _) (Nat.zero_le _)) (fun g3 A3 => ?_))
  exact loop 625 0 FU g3 _ _ (by omega) (by unfold FU; omega) A3 (Or.inr ⟨rfl, rfl⟩) (fun i j z => by
    rcases z with z | z
    · exact z.elim
    · rw [z.1, z.2]; exact Rp.z) (fun i j z => z.elim)
end AA
