section ZQe
theorem zq_congr {K : Type} [Lean.Grind.CommRing K] {φ : Int → K} {c d : Nat → Int} (h : ∀ q, q < 25 → c q = d q) : zq φ c = zq φ d := funext fun i => funext fun j => by
  by_cases q : i + j ≤ 4
  · rw [zq_t q, zq_t q, h _ (by omega)]
  · rw [zq_f q, zq_f q]
def kc_l {K : Type} [Lean.Grind.CommRing K] (A B E : K) : Nat → Nat → K := fun i j => if i = 1 ∧ j = 0 then A else (if i = 0 ∧ j = 1 then B else (if i = 0 ∧ j = 0 then E else 0))
theorem zq_lin {K : Type} [Lean.Grind.CommRing K] {p : Int} {φ : Int → K} (h : zKp K p φ) (a b e : Int) : zq φ (zlin3 (a % p) (b % p) (e % p)) = kc_l (φ a) (φ b) (φ e) := funext fun i => funext fun j => by
  unfold kc_l
  by_cases q : i + j ≤ 4
  · rw [zq_t q, zlin3_sp]
    by_cases h1 : i = 1 ∧ j = 0
    · rw [if_pos h1, if_neg (by omega), if_pos (by omega), h.em]
    · rw [if_neg h1]
      by_cases h2 : i = 0 ∧ j = 1
      · rw [if_pos h2, if_pos (by omega), h.em]
      · rw [if_neg h2, if_neg (by omega), if_neg (by omega)]
        by_cases h3 : i = 0 ∧ j = 0
        · rw [if_pos h3, if_pos (by omega), h.em]
        · rw [if_neg h3, if_neg (by omega), h.z]
  · rw [zq_f q, if_neg (by omega), if_neg (by omega), if_neg (by omega)]
theorem kc_l_dg {K : Type} [Lean.Grind.CommRing K] {A B E : K} : ∀ i j, 1 < i + j → kc_l A B E i j = 0 := fun i j h => by
  unfold kc_l
  rw [if_neg (by omega), if_neg (by omega), if_neg (by omega)]
theorem kc_sb_l {K : Type} [Lean.Grind.CommRing K] (P Q : Nat → Nat → K) (A B E : K) {n : Nat} (hn : 2 ≤ n) : kc_sb P Q (kc_l A B E) n = fun i j => A * P i j + B * Q i j + E * kc_t 1 0 0 i j := by
  have e : kc_l A B E = fun i j => ka_s (fun t => (if t = 0 then A else if t = 1 then B else E) * (if t = 0 then kc_t 1 1 0 else if t = 1 then kc_t 1 0 1 else kc_t 1 0 0) i j) 3 := funext fun i => funext fun j => by
    show kc_l A B E i j = ((0 + A * kc_t 1 1 0 i j) + B * kc_t 1 0 1 i j) + E * kc_t 1 0 0 i j
    unfold kc_l kc_t
    by_cases h1 : i = 1 ∧ j = 0
    · rw [if_pos h1, if_pos h1, if_neg (by omega), if_neg (by omega)]; grind
    · rw [if_neg h1, if_neg h1]
      by_cases h2 : i = 0 ∧ j = 1
      · rw [if_pos h2, if_pos h2, if_neg (by omega)]; grind
      · rw [if_neg h2, if_neg h2]
        by_cases h3 : i = 0 ∧ j = 0
        · rw [if_pos h3, if_pos h3]; grind
        · rw [if_neg h3, if_neg h3]; grind
  rw [e, kc_sb_lin (fun t => if t = 0 then A else if t = 1 then B else E) (fun t => if t = 0 then kc_t 1 1 0 else if t = 1 then kc_t 1 0 1 else kc_t 1 0 0) 3 n]
  funext i j
  show ((0 + A * kc_sb P Q (kc_t 1 1 0) n i j) + B * kc_sb P Q (kc_t 1 0 1) n i j) + E * kc_sb P Q (kc_t 1 0 0) n i j = _
  rw [kc_sb_t _ (by omega) (by omega), kc_sb_t _ (by omega) (by omega), kc_sb_t _ (by omega) (by omega)]
  show ((0 + A * (1 * kc_mul (kc_mul (kc_t 1 0 0) P) (kc_t 1 0 0) i j)) + B * (1 * kc_mul (kc_t 1 0 0) (kc_mul (kc_t 1 0 0) Q) i j)) + E * (1 * kc_mul (kc_t 1 0 0) (kc_t 1 0 0) i j) = _
  rw [kc_1_mul, kc_1_mul, kc_1_mul, kc_1_mul, kc_mul_comm P, kc_1_mul]; grind
/-- a MOVE leaves no CURVE without DEGREE -/
theorem zmv_top {K : Type} [Lean.Grind.CommRing K] {p : Int} {φ : Int → K} (h : zKp K p φ) {d : Nat → Int} {a b e c k f : Int} (hd : zcan p d) (ht : 0 < ztop d) (hdet : φ a * φ k - φ b * φ c ≠ 0) : 0 < ztop (zmv d (zpws (zlin3 (a % p) (b % p) (e % p)) p) (zpws (zlin3 (c % p) (k % p) (f % p)) p) p) := by
  refine Classical.byContradiction fun q => ?_
  obtain ⟨g, hg⟩ : ∃ g, g = zmv d (zpws (zlin3 (a % p) (b % p) (e % p)) p) (zpws (zlin3 (c % p) (k % p) (f % p)) p) p := ⟨_, rfl⟩
  rw [← hg] at q
  have e1 : zq φ g = kc_sb (kc_l (φ a) (φ b) (φ e)) (kc_l (φ c) (φ k) (φ f)) (zq φ d) 5 := by
    rw [hg, zq_mv h (by rw [zq_lin h]; exact kc_l_dg) (by rw [zq_lin h]; exact kc_l_dg), zq_lin h, zq_lin h]
  have e2 : zq φ g = kc_t (φ (g 0)) 0 0 := funext fun i => funext fun j => by
    unfold kc_t
    by_cases q2 : i + j ≤ 4
    · rw [zq_t q2]
      by_cases q3 : i = 0 ∧ j = 0
      · rw [if_pos q3, q3.1, q3.2]
      · rw [if_neg q3, zT_z (c := g) q2 (by omega), h.z]
    · rw [zq_f q2, if_neg (by omega)]
  obtain ⟨D, hD⟩ := h.F.2 _ hdet
  obtain ⟨P, hP⟩ : ∃ P, P = kc_l (D * φ k) (-(D * φ b)) (D * (φ b * φ f - φ k * φ e)) := ⟨_, rfl⟩
  obtain ⟨Q, hQ⟩ : ∃ Q, Q = kc_l (-(D * φ c)) (D * φ a) (D * (φ c * φ e - φ a * φ f)) := ⟨_, rfl⟩
  have s1 : kc_sb P Q (kc_l (φ a) (φ b) (φ e)) 40 = kc_t 1 1 0 := by
    rw [kc_sb_l _ _ _ _ _ (by omega), hP, hQ]
    funext i j
    unfold kc_l kc_t
    by_cases h1 : i = 1 ∧ j = 0
    · rw [if_pos h1, if_pos h1, if_pos h1, if_neg (by omega)]; grind
    · rw [if_neg h1, if_neg h1, if_neg h1]
      by_cases h2 : i = 0 ∧ j = 1
      · rw [if_pos h2, if_pos h2, if_neg (by omega)]; grind
      · rw [if_neg h2, if_neg h2]
        by_cases h3 : i = 0 ∧ j = 0
        · rw [if_pos h3, if_pos h3, if_pos h3]; grind
        · rw [if_neg h3, if_neg h3, if_neg h3]; grind
  have s2 : kc_sb P Q (kc_l (φ c) (φ k) (φ f)) 40 = kc_t 1 0 1 := by
    rw [kc_sb_l _ _ _ _ _ (by omega), hP, hQ]
    funext i j
    unfold kc_l kc_t
    by_cases h1 : i = 1 ∧ j = 0
    · rw [if_pos h1, if_pos h1, if_neg (by omega), if_neg (by omega)]; grind
    · rw [if_neg h1, if_neg h1]
      by_cases h2 : i = 0 ∧ j = 1
      · rw [if_pos h2, if_pos h2, if_neg (by omega), if_pos h2]; grind
      · rw [if_neg h2, if_neg h2, if_neg h2]
        by_cases h3 : i = 0 ∧ j = 0
        · rw [if_pos h3, if_pos h3, if_pos h3]; grind
        · rw [if_neg h3, if_neg h3, if_neg h3]; grind
  have l2 : ∀ A B E : K, kc_lt 2 (kc_l A B E) := fun A B E i j hij => kc_l_dg i j (by omega)
  have e3 := kc_sb_comp (P := P) (Q := Q) (f := zq φ d) (m := 5) (N := 40) (l2 (φ a) (φ b) (φ e)) (l2 (φ c) (φ k) (φ f)) (by omega) (by omega)
  rw [s1, s2, kc_sb_id (zq_lt5 d), ← e1, e2, kc_sb_t _ (by omega) (by omega)] at e3
  obtain ⟨i, j, h1, h2, h3⟩ := zT_ex (c := d) (by omega)
  have e4 := congrFun (congrFun e3 i) j
  have e5 : kc_mul (kc_pw P 0) (kc_pw Q 0) i j = 0 := by
    show kc_mul (kc_t 1 0 0) (kc_t 1 0 0) i j = 0
    rw [kc_1_mul]
    unfold kc_t
    rw [if_neg (by omega)]
  rw [zq_t h1] at e4
  have e6 : φ (g 0) * kc_mul (kc_pw P 0) (kc_pw Q 0) i j = φ (d (5 * i + j)) := e4
  rw [e5] at e6
  exact h3 ((h.z0 (hd _)).1 (by rw [← e6]; grind))
end ZQe
section ZQf
/-- while a CURVE is moved -/
def zMJ (S : zS2) (p : Int) (nx ny : Nat → Int) (X : zS2) : Prop := (∀ r q : Nat, r ≠ 3 → r ≠ 4 → X r q = S r q) ∧ (∀ q : Nat, q < 3500 → X 3 q = S 3 q) ∧ (∀ q : Nat, q < 25 → X 3 (25 * 140 + q) = nx q) ∧ (∀ q : Nat, q < 25 → X 3 (25 * 142 + q) = ny q) ∧ (∀ i j : Nat, i + j ≤ 4 → 0 ≤ zG X 144 (5 * i + j) ∧ zG X 144 (5 * i + j) < p) ∧ zflt (zG X 144)
theorem zMJ.o {S X Y : zS2} {p : Int} {nx ny : Nat → Int} (h : zMJ S p nx ny X) (hY : ∀ r q : Nat, r ≠ 4 → ¬ (r = 3 ∧ 25 * 141 ≤ q ∧ q < 25 * 141 + 25) → Y r q = X r q) : zMJ S p nx ny Y := by
  have e : ∀ k, k < 25 → zG Y 144 k = zG X 144 k := fun k hk => hY 3 _ (by omega) (by omega)
  refine ⟨fun r q a b => by rw [hY r q b (by omega)]; exact h.1 r q a b, fun q hq => by rw [hY 3 q (by omega) (by omega)]; exact h.2.1 q hq, fun q hq => by rw [hY 3 _ (by omega) (by omega)]; exact h.2.2.1 q hq, fun q hq => by rw [hY 3 _ (by omega) (by omega)]; exact h.2.2.2.1 q hq, fun i j hij => by rw [e _ (by omega)]; exact h.2.2.2.2.1 i j hij, fun i j hi hj hij => by rw [e _ (by omega)]; exact h.2.2.2.2.2 i j hi hj hij⟩
end ZQf
