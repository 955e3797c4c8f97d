/-! BY QUEUES -/
def szQ (u : Nat) : Nat := if u = 0 then 0 else if u < 9 then 1 else 2
def bhd (u k : Nat) : Nat := if u = 0 then k + 1 else 9 + 8 * (u - 1) + k
def frt (u : Nat) : Nat := if u < 9 then u - 1 else (u - 9) / 8
def rst (u : Nat) : Nat := if u < 9 then 0 else (u - 9) % 8 + 1
def sa1 (K : Nat) (sA : Mc) (t : Nat) (p : Pl) (S : WSt) (k : Nat) : WSt := if ¬ sA p.1 k = -1 ∧ szQ p.2.2.1 < K then rch S (tN (sA p.1 k), p.2.1, bhd p.2.2.1 k, p.2.2.2) t k else S
def sb1 (K : Nat) (sB : Mc) (t : Nat) (p : Pl) (S : WSt) (k : Nat) : WSt := if ¬ sB p.2.1 k = -1 ∧ szQ p.2.2.2 < K then rch S (p.1, tN (sB p.2.1 k), p.2.2.1, bhd p.2.2.2 k) t (8 + k) else S
def exA (K : Nat) (sA : Mc) (t : Nat) (p : Pl) : Nat → WSt → WSt
  | 0, S => S
  | d + 1, S => exA K sA t p d (sa1 K sA t p S (7 - d))
def exB (K : Nat) (sB : Mc) (t : Nat) (p : Pl) : Nat → WSt → WSt
  | 0, S => S
  | d + 1, S => exB K sB t p d (sb1 K sB t p S (7 - d))
def ha1 (hA : Mc) (t : Nat) (p : Pl) (S : WSt) : WSt := if 0 < p.2.2.2 ∧ ¬ hA p.1 (frt p.2.2.2) = -1 then rch S (tN (hA p.1 (frt p.2.2.2)), p.2.1, p.2.2.1, rst p.2.2.2) t 16 else S
def hb1 (hB : Mc) (t : Nat) (p : Pl) (S : WSt) : WSt := if 0 < p.2.2.1 ∧ ¬ hB p.2.1 (frt p.2.2.1) = -1 then rch S (p.1, tN (hB p.2.1 (frt p.2.2.1)), rst p.2.2.1, p.2.2.2) t 17 else S
def ex1 (K : Nat) (sA hA sB hB : Mc) (t : Nat) (p : Pl) (S : WSt) : WSt := hb1 hB t p (ha1 hA t p (exB K sB t p 8 (exA K sA t p 8 S)))
def anyS (s : Mc) (i : Nat) : Nat → Bool
  | 0 => false
  | k + 1 => anyS s i k || decide (¬ s i k = -1)
def mv1 (K : Nat) (sA hA sB hB : Mc) (p : Pl) : Bool := (anyS sA p.1 8 && decide (szQ p.2.2.1 < K)) || (anyS sB p.2.1 8 && decide (szQ p.2.2.2 < K)) || decide (0 < p.2.2.2 ∧ ¬ hA p.1 (frt p.2.2.2) = -1) || decide (0 < p.2.2.1 ∧ ¬ hB p.2.1 (frt p.2.2.1) = -1)
def fnd1 (K : Nat) (sA hA sB hB : Mc) (eA eB : Nat → Int32) (p : Pl) : Nat := if mv1 K sA hA sB hB p = true then 0 else if (eA p.1 = 1 ∧ eB p.2.1 = 1) ∧ p.2.2.1 = 0 ∧ p.2.2.2 = 0 then 0 else 1
theorem anyS_iff (s : Mc) (i : Nat) : ∀ n, anyS s i n = true ↔ ∃ k, k < n ∧ ¬ s i k = -1
  | 0 => by simp [anyS]
  | n + 1 => by
    rw [anyS, Bool.or_eq_true, anyS_iff s i n, decide_eq_true_eq]
    constructor
    · rintro (⟨k, k1, k2⟩ | k2)
      · exact ⟨k, by omega, k2⟩
      · exact ⟨n, by omega, k2⟩
    · rintro ⟨k, k1, k2⟩
      by_cases e : k = n
      · subst e; exact Or.inr k2
      · exact Or.inl ⟨k, by omega, k2⟩
theorem bhd_le {u k K : Nat} (hk : k < 8) (hK : K ≤ 2) (h : szQ u < K) : bhd u k ≤ 72 ∧ u < 9 := by
  unfold szQ at h
  unfold bhd
  split at h
  · rename_i z; rw [if_pos z]; omega
  · split at h
    · rename_i z w; rw [if_neg z]; omega
    · omega
theorem frt_lt {u : Nat} (h0 : 0 < u) (h : u ≤ 72) : frt u < 8 := by unfold frt; split <;> omega
theorem rst_le {u : Nat} (h : u ≤ 72) : rst u ≤ 72 := by unfold rst; split <;> omega
section QF
variable {h g : AH} {x y a b n m K : Nat} {S : WSt} {p : Pl} {t : Nat}
theorem q_all : ∀ u, u < 73 → ((nI (qC u) = 0) = (u = 0)) ∧ ((nI (qC u) < 16) = (u < 9)) ∧ (∀ h, f_Wa_front h (nI (qC u)) = some (nI (if u = 0 then 0 else 2 ^ frt u))) ∧ (nI (qC u) >>> ((4 : Int32) &&& 31)) = nI (qC (rst u)) := by
  have a1 : ∀ u, u < 73 → ((nI (qC u) = 0) ↔ (u = 0)) := by decide +kernel
  have a2 : ∀ u, u < 73 → ((nI (qC u) < 16) ↔ (u < 9)) := by decide +kernel
  have a3 : ∀ u, u < 73 → (((1 : Int32) <<< ((nI (qC u) &&& (15 : Int32)) &&& 31)) >>> ((1 : Int32) &&& 31)) = (nI (if u = 0 then 0 else 2 ^ frt u)) := by decide +kernel
  have a4 : ∀ u, u < 73 → (nI (qC u) >>> ((4 : Int32) &&& 31)) = nI (qC (rst u)) := by decide +kernel
  intro u hu
  refine ⟨propext (a1 u hu), propext (a2 u hu), fun h => ?_, a4 u hu⟩
  unfold f_Wa_front
  rw [a3 u hu]
theorem q_frt : ∀ u, u < 73 → 0 < u → (nI (qC u) &&& (15 : Int32)) - (1 : Int32) = nI (frt u) := by decide +kernel
theorem q_long (h : AH) {u k : Nat} (hu : u < 9) (hk : k < 8) : f_Wa_longer h (nI (qC u)) (nI k) = some (nI (qC (bhd u k))) := by
  have a1 : ∀ u, u < 9 → ∀ k, k < 8 → (if nI (qC u) = (0 : Int32) then (nI k + (1 : Int32)) else (nI (qC u) ||| ((nI k + (1 : Int32)) <<< ((4 : Int32) &&& 31)))) = nI (qC (bhd u k)) := by decide +kernel
  unfold f_Wa_longer
  rw [← a1 u hu k hk]
  split <;> rfl
theorem room_C (lg : Lay g) (r10 : hI g 92 10 = nI K) (h1 : 1 ≤ K) (h2 : K ≤ 2) {u : Nat} (hu : u ≤ 72) : f_Wa_hasRoom g 92 (nI (qC u)) = some (bI (decide (szQ u < K))) := by
  obtain ⟨a1, a2, _⟩ := q_all u (by omega)
  simp only [f_Wa_hasRoom, gI_n (c := 10) (kk92 lg), r10, ob_v, a1, a2]
  rcases (show K = 1 ∨ K = 2 by omega) with rfl | rfl
  · rw [if_pos (show nI 1 = 1 from rfl)]
    unfold szQ
    by_cases z : u = 0
    · rw [if_pos z, if_pos z]; rfl
    · rw [if_neg z, if_neg z]
      split <;> rfl
  · rw [if_neg (show ¬ nI 2 = 1 by decide)]
    unfold szQ
    by_cases w : u < 9
    · rw [if_pos w]
      split <;> rfl
    · rw [if_neg w, if_neg (show ¬ u = 0 by omega), if_neg w]; rfl
theorem placeq (g : AH) {q : Pl} (hq : plOK q) : f_Wa_place g (nI q.1) (nI q.2.1) (nI (qC q.2.2.1)) (nI (qC q.2.2.2)) = some (nI (cC q)) := by
  have u1 := qC_lt hq.2.2.1
  have u2 := qC_lt hq.2.2.2
  obtain ⟨a1, a2, a3, a4⟩ := hq
  exact place_C g (by omega) (by omega) u1 u2
theorem actA_C (hl : Lay h) (hK : K ≤ 2) (T1 : TK h x a n) (T2 : TK h y b m) (r1 : hR h 92 8 = some a) (hp : plIn n m p) {ρ : Type} {Q : ρ → Prop} (k : AH → Option ρ) (y7 y8 y9 : Int32) {S0 : WSt}
    (hk : ∀ g', CWk h n m g' (exA K (sX h x) t p 8 S0) → Mor n m S0 (exA K (sX h x) t p 8 S0) → OK (k g') Q) (ht : t < S0.1.1) (C : CWk h n m g S0) :
    OK (f_Wa_actFrom_L137 92 (nI t) (nI p.1) (nI p.2.1) (nI (qC p.2.2.1)) (nI (qC p.2.2.2)) (nI (if szQ p.2.2.1 < K then sys h x p.1 else 0)) y7 y8 y9 k FU 0 g) Q := by
  have t1 := T1.1
  have t2 := T2.1
  have M := mch_T T1 T2
  have sl1 := sys_lt h x p.1
  obtain ⟨E, eE⟩ : ∃ E, E = exA K (sX h x) t p 8 S0 := ⟨_, rfl⟩
  rw [← eE] at hk
  have main : ∀ d i N (g : AH) (S : WSt), i + d = 8 → d < N → CWk h n m g S → Mor n m S0 S → exA K (sX h x) t p d S = E → OK (f_Wa_actFrom_L137 92 (nI t) (nI p.1) (nI p.2.1) (nI (qC p.2.2.1)) (nI (qC p.2.2.2)) (nI (if szQ p.2.2.1 < K then sys h x p.1 else 0)) y7 y8 y9 k N (nI i) g) Q := by
    intro d
    induction d with
    | zero =>
      intro i N g S h1 h2 C Mr e
      obtain ⟨N, rfl⟩ : ∃ q, N = q + 1 := ⟨N - 1, by omega⟩
      have : i = 8 := by omega
      subst this
      simp only [f_Wa_actFrom_L137, show ¬ nI 8 < 8 by decide, if_false]
      rw [exA] at e
      exact hk g (by rw [← e]; exact C) (by rw [← e]; exact Mr)
    | succ d ih =>
      intro i N g S h1 h2 C Mr e
      obtain ⟨N, rfl⟩ : ∃ q, N = q + 1 := ⟨N - 1, by omega⟩
      have hi : i < 8 := by omega
      have qi : nI i < 8 := nI_lt (b := 8) hi (by decide)
      have i7 : 7 - d = i := by omega
      rw [exA, i7] at e
      have lt : (if szQ p.2.2.1 < K then sys h x p.1 else 0) < 2 ^ 31 := by split <;> omega
      have bA : (if szQ p.2.2.1 < K then sys h x p.1 else 0).testBit i = decide (¬ sX h x p.1 i = -1 ∧ szQ p.2.2.1 < K) := by
        by_cases z : szQ p.2.2.1 < K
        · rw [if_pos z, sys_bit _ _ _ hi]; unfold sX; simp [z]
        · rw [if_neg z]; simp [z]
      have lg := C.1.lay hl
      have U1 := T1.ag hl.2.2.2.2.2.2 (swk_ag C.1)
      have R1 : hR g 92 8 = some a := (C.1.R _ _).trans r1
      simp only [f_Wa_actFrom_L137, qi, if_true, hasBit_C, hb_nI lt (show i < 31 by omega), bA, ob_v]
      unfold sa1 at e
      by_cases q : ¬ sX h x p.1 i = -1 ∧ szQ p.2.2.1 < K
      · rw [decide_eq_true q, if_neg (by decide)]
        rw [if_pos q] at e
        obtain ⟨j1, e1⟩ := (mc_A M hp.1 hi (by omega)).1 q.1
        obtain ⟨b72, u9⟩ := bhd_le hi hK q.2
        have b1 := U1.behind (g := 1) hp.1 (by decide) hi
        rw [swk_nx C.1, show 8 * 1 + i = 8 + i by omega, show nx h x p.1 (8 + i) = sX h x p.1 i from rfl, e1] at b1
        have b1' : f_Ta_behind g a (nI p.1) (1 : Int32) (nI i) = some (nI (tN (sX h x p.1 i))) := b1
        have pin : plIn n m (tN (sX h x p.1 i), p.2.1, bhd p.2.2.1 i, p.2.2.2) := ⟨j1, hp.2.1, b72, hp.2.2.2⟩
        have pl := placeq g (q := (tN (sX h x p.1 i), p.2.1, bhd p.2.2.1 i, p.2.2.2)) ⟨by dsimp only; omega, by have := hp.2.1; dsimp only; omega, b72, hp.2.2.2⟩
        dsimp only at pl
        obtain ⟨g3, e3, c3, m3⟩ := come_C (t := t) (act := i) hl t1 t2 C pin (by have := Mr.2.2.1; omega) (by omega)
        have a2 : (0 : Int32) + nI i = nI i := by rw [show (0 : Int32) = nI 0 from rfl, nI_add, Nat.zero_add]
        simp only [gR_n (c := 10) (kk92 lg), R1, ob_v, cv_n (c := 9) U1.2.2.2.1.1, b1', q_long g u9 hi, pl, cv_n (c := 10) (kk92 lg), a2, e3, nI_1]
        exact ih (i + 1) N g3 _ (by omega) (by omega) c3 (Mr.trans m3) e
      · rw [decide_eq_false q, if_pos (show bI false = 0 from rfl), nI_1]
        rw [if_neg q] at e
        exact ih (i + 1) N g S (by omega) (by omega) C Mr e
  exact main 8 0 FU g S0 rfl (by unfold FU; omega) C (Mor.refl C.2.1.1 C.2.2) eE.symm
theorem actB_C (hl : Lay h) (hK : K ≤ 2) (T1 : TK h x a n) (T2 : TK h y b m) (r2 : hR h 92 9 = some b) (hp : plIn n m p) {ρ : Type} {Q : ρ → Prop} (k : AH → Option ρ) (y6 y8 y9 : Int32) {S0 : WSt}
    (hk : ∀ g', CWk h n m g' (exB K (sX h y) t p 8 S0) → Mor n m S0 (exB K (sX h y) t p 8 S0) → OK (k g') Q) (ht : t < S0.1.1) (C : CWk h n m g S0) :
    OK (f_Wa_actFrom_L196 92 (nI t) (nI p.1) (nI p.2.1) (nI (qC p.2.2.1)) (nI (qC p.2.2.2)) y6 (nI (if szQ p.2.2.2 < K then sys h y p.2.1 else 0)) y8 y9 k FU 0 g) Q := by
  have t1 := T1.1
  have t2 := T2.1
  have M := mch_T T1 T2
  have sl1 := sys_lt h y p.2.1
  obtain ⟨E, eE⟩ : ∃ E, E = exB K (sX h y) t p 8 S0 := ⟨_, rfl⟩
  rw [← eE] at hk
  have main : ∀ d i N (g : AH) (S : WSt), i + d = 8 → d < N → CWk h n m g S → Mor n m S0 S → exB K (sX h y) t p d S = E → OK (f_Wa_actFrom_L196 92 (nI t) (nI p.1) (nI p.2.1) (nI (qC p.2.2.1)) (nI (qC p.2.2.2)) y6 (nI (if szQ p.2.2.2 < K then sys h y p.2.1 else 0)) y8 y9 k N (nI i) g) Q := by
    intro d
    induction d with
    | zero =>
      intro i N g S h1 h2 C Mr e
      obtain ⟨N, rfl⟩ : ∃ q, N = q + 1 := ⟨N - 1, by omega⟩
      have : i = 8 := by omega
      subst this
      simp only [f_Wa_actFrom_L196, show ¬ nI 8 < 8 by decide, if_false]
      rw [exB] at e
      exact hk g (by rw [← e]; exact C) (by rw [← e]; exact Mr)
    | succ d ih =>
      intro i N g S h1 h2 C Mr e
      obtain ⟨N, rfl⟩ : ∃ q, N = q + 1 := ⟨N - 1, by omega⟩
      have hi : i < 8 := by omega
      have qi : nI i < 8 := nI_lt (b := 8) hi (by decide)
      have i7 : 7 - d = i := by omega
      rw [exB, i7] at e
      have lt : (if szQ p.2.2.2 < K then sys h y p.2.1 else 0) < 2 ^ 31 := by split <;> omega
      have bA : (if szQ p.2.2.2 < K then sys h y p.2.1 else 0).testBit i = decide (¬ sX h y p.2.1 i = -1 ∧ szQ p.2.2.2 < K) := by
        by_cases z : szQ p.2.2.2 < K
        · rw [if_pos z, sys_bit _ _ _ hi]; unfold sX; simp [z]
        · rw [if_neg z]; simp [z]
      have lg := C.1.lay hl
      have U2 := T2.ag hl.2.2.2.2.2.2 (swk_ag C.1)
      have R2 : hR g 92 9 = some b := (C.1.R _ _).trans r2
      simp only [f_Wa_actFrom_L196, qi, if_true, hasBit_C, hb_nI lt (show i < 31 by omega), bA, ob_v]
      unfold sb1 at e
      by_cases q : ¬ sX h y p.2.1 i = -1 ∧ szQ p.2.2.2 < K
      · rw [decide_eq_true q, if_neg (by decide)]
        rw [if_pos q] at e
        obtain ⟨j1, e1⟩ := (mc_B M hp.2.1 hi (by omega)).1 q.1
        obtain ⟨b72, u9⟩ := bhd_le hi hK q.2
        have b1 := U2.behind (g := 1) hp.2.1 (by decide) hi
        rw [swk_nx C.1, show 8 * 1 + i = 8 + i by omega, show nx h y p.2.1 (8 + i) = sX h y p.2.1 i from rfl, e1] at b1
        have b1' : f_Ta_behind g b (nI p.2.1) (1 : Int32) (nI i) = some (nI (tN (sX h y p.2.1 i))) := b1
        have pin : plIn n m (p.1, tN (sX h y p.2.1 i), p.2.2.1, bhd p.2.2.2 i) := ⟨hp.1, j1, hp.2.2.1, b72⟩
        have pl := placeq g (q := (p.1, tN (sX h y p.2.1 i), p.2.2.1, bhd p.2.2.2 i)) ⟨by have := hp.1; dsimp only; omega, by dsimp only; omega, hp.2.2.1, b72⟩
        dsimp only at pl
        obtain ⟨g3, e3, c3, m3⟩ := come_C (t := t) (act := 8 + i) hl t1 t2 C pin (by have := Mr.2.2.1; omega) (by omega)
        have a2 : (8 : Int32) + nI i = nI (8 + i) := by rw [show (8 : Int32) = nI 8 from rfl, nI_add]
        simp only [gR_n (c := 10) (kk92 lg), R2, ob_v, cv_n (c := 9) U2.2.2.2.1.1, b1', q_long g u9 hi, pl, cv_n (c := 10) (kk92 lg), a2, e3, nI_1]
        exact ih (i + 1) N g3 _ (by omega) (by omega) c3 (Mr.trans m3) e
      · rw [decide_eq_false q, if_pos (show bI false = 0 from rfl), nI_1]
        rw [if_neg q] at e
        exact ih (i + 1) N g S (by omega) (by omega) C Mr e
  exact main 8 0 FU g S0 rfl (by unfold FU; omega) C (Mor.refl C.2.1.1 C.2.2) eE.symm
end QF
