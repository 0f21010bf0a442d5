section ZWa
/-- made of two, below a DEGREE -/
def kw_V {K : Type} [Lean.Grind.CommRing K] (N : Nat) (F G v : Nat → Nat → K) : Prop := ∃ A B : Nat → Nat → K, ∀ a b, a + b < N → v a b = kc_mul A F a b + kc_mul B G a b
theorem kw_Vz {K : Type} [Lean.Grind.CommRing K] {F G v : Nat → Nat → K} : kz_V F G (kp_w 153 v) ↔ kw_V 17 F G v := ⟨fun ⟨A, B, e⟩ => ⟨A, B, fun a b hab => kz_w' e hab⟩, fun ⟨A, B, e⟩ => ⟨A, B, kz_w e⟩⟩
theorem kw_V.mono {K : Type} [Lean.Grind.CommRing K] {N M : Nat} {F G v : Nat → Nat → K} (h : kw_V N F G v) (hM : M ≤ N) : kw_V M F G v := by
  obtain ⟨A, B, e⟩ := h
  exact ⟨A, B, fun a b hab => e a b (by omega)⟩
theorem kw_V.congr {K : Type} [Lean.Grind.CommRing K] {N : Nat} {F G v w : Nat → Nat → K} (h : kw_V N F G v) (e : ∀ a b, a + b < N → w a b = v a b) : kw_V N F G w := by
  obtain ⟨A, B, q⟩ := h
  exact ⟨A, B, fun a b hab => (e a b hab).trans (q a b hab)⟩
theorem kw_V.zero {K : Type} [Lean.Grind.CommRing K] (N : Nat) (F G : Nat → Nat → K) : kw_V N F G (fun _ _ => 0) := ⟨fun _ _ => 0, fun _ _ => 0, fun a b _ => by rw [kc_zmul, kc_zmul, ka_az]⟩
theorem kw_r1 {K : Type} [Lean.Grind.CommRing K] (a b c d e : K) : a + b + c * (d + e) = (a + c * d) + (b + c * e) := by grind
theorem kw_V.ac {K : Type} [Lean.Grind.CommRing K] {N : Nat} {F G v w : Nat → Nat → K} (h : kw_V N F G v) (h2 : kw_V N F G w) (c : K) : kw_V N F G (fun a b => v a b + c * w a b) := by
  obtain ⟨A, B, e⟩ := h
  obtain ⟨A2, B2, e2⟩ := h2
  refine ⟨fun a b => A a b + c * A2 a b, fun a b => B a b + c * B2 a b, fun a b hab => ?_⟩
  show v a b + c * w a b = _
  rw [kc_mul_ac, kc_mul_ac, e a b hab, e2 a b hab]
  exact kw_r1 _ _ _ _ _
theorem kw_V.mul {K : Type} [Lean.Grind.CommRing K] {N : Nat} {F G v : Nat → Nat → K} (h : kw_V N F G v) (P : Nat → Nat → K) : kw_V N F G (kc_mul P v) := by
  obtain ⟨A, B, e⟩ := h
  refine ⟨kc_mul P A, kc_mul P B, fun a b hab => ?_⟩
  rw [kz_lo (d := N) (F := P) (F' := P) (G := v) (G' := fun i j => kc_mul A F i j + kc_mul B G i j) (fun _ _ _ => rfl) e a b hab, kc_mul_comm, kc_mul_add]
  show kc_mul (kc_mul A F) P a b + kc_mul (kc_mul B G) P a b = _
  rw [kc_mul_comm _ P, kc_mul_comm _ P, kc_mul_assoc, kc_mul_assoc]
theorem kw_V.sum {K : Type} [Lean.Grind.CommRing K] {N : Nat} {F G : Nat → Nat → K} (c : Nat → K) (X : Nat → Nat → Nat → K) : ∀ M, (∀ q, q < M → c q = 0 ∨ kw_V N F G (X q)) → kw_V N F G (fun a b => ka_s (fun q => c q * X q a b) M)
  | 0, _ => kw_V.zero N F G
  | M + 1, h => by
    have ih := kw_V.sum c X M (fun q hq => h q (by omega))
    rcases h M (by omega) with z | z
    · refine ih.congr (fun a b _ => ?_)
      show ka_s (fun q => c q * X q a b) M + c M * X M a b = _
      rw [z, ka_zm, ka_az]
    · exact ih.ac z (c M)
/-- below a DEGREE, as a sum of TERMS -/
theorem kw_terms {K : Type} [Lean.Grind.CommRing K] (N : Nat) (c : Nat → Nat → K) {a b : Nat} (hab : a + b < N) : ka_s (fun q => c (ndc q).1 (ndc q).2 * kc_t 1 (ndc q).1 (ndc q).2 a b) (nT N) = c a b := by
  rw [ka_s_one (k := ncol a b) (nT N) (ncol_lt hab) (fun q _ hne => by
    have : kc_t (1 : K) (ndc q).1 (ndc q).2 a b = 0 := if_neg (fun z => hne (by rw [← ncol_ndc q, z.1, z.2]))
    rw [this, ka_mz]), ndc_ncol]
  show c a b * (if a = a ∧ b = b then 1 else 0) = c a b
  rw [if_pos ⟨rfl, rfl⟩]
  exact Lean.Grind.Semiring.mul_one _
theorem kw_t_t {K : Type} [Lean.Grind.CommRing K] (r u i j : Nat) : kc_mul (kc_t (1 : K) r u) (kc_t 1 i j) = kc_t 1 (r + i) (u + j) := funext fun a => funext fun b => by
  rw [kc_t_mul]
  show (if r ≤ a ∧ u ≤ b then 1 * (if a - r = i ∧ b - u = j then (1 : K) else 0) else 0) = if a = r + i ∧ b = u + j then 1 else 0
  by_cases c1 : r ≤ a ∧ u ≤ b
  · rw [if_pos c1, ka_om]
    by_cases c2 : a - r = i ∧ b - u = j
    · rw [if_pos c2, if_pos (by omega)]
    · rw [if_neg c2, if_neg (by omega)]
  · rw [if_neg c1, if_neg (by omega)]
/-- from a DEGREE on, exactly -/
theorem kw_up {K : Type} [Lean.Grind.CommRing K] {F G : Nat → Nat → K} {k : Nat} (h : ∀ i j, i + j = k → kw_V (k + 1) F G (kc_t 1 i j)) {d : Nat} (hd : k ≤ d) {i j : Nat} (hij : i + j = d) : kw_V (d + 1) F G (kc_t 1 i j) := by
  obtain ⟨i2, j2, h1, h2, h3⟩ : ∃ i2 j2, i2 ≤ i ∧ j2 ≤ j ∧ i2 + j2 = k := by
    by_cases q : k ≤ i
    · exact ⟨k, 0, q, by omega, by omega⟩
    · exact ⟨i, k - i, by omega, by omega, by omega⟩
  obtain ⟨A, B, e⟩ := h i2 j2 h3
  refine ⟨kc_mul (kc_t 1 (i - i2) (j - j2)) A, kc_mul (kc_t 1 (i - i2) (j - j2)) B, fun a b hab => ?_⟩
  rw [kc_mul_assoc, kc_mul_assoc, kc_t_mul, kc_t_mul]
  have et : kc_t (1 : K) i j = kc_mul (kc_t 1 (i - i2) (j - j2)) (kc_t 1 i2 j2) := by
    rw [kw_t_t, show i - i2 + i2 = i by omega, show j - j2 + j2 = j by omega]
  rw [et, kc_t_mul]
  by_cases q : i - i2 ≤ a ∧ j - j2 ≤ b
  · rw [if_pos q, if_pos q, if_pos q, ka_om, ka_om, ka_om]
    exact e _ _ (by omega)
  · rw [if_neg q, if_neg q, if_neg q, ka_az]
theorem kw_r2 {K : Type} [Lean.Grind.CommRing K] (t s r : K) (h : r = t - s) : t = s + 1 * r := by grind
/-- .. and to any precision -/
theorem kw_all {K : Type} [Lean.Grind.CommRing K] {F G : Nat → Nat → K} {k : Nat} (h : ∀ i j, i + j = k → kw_V (k + 1) F G (kc_t 1 i j)) (N : Nat) : ∀ m d, N ≤ d + m → k ≤ d → ∀ i j, i + j = d → kw_V N F G (kc_t 1 i j)
  | 0, d, hN, _, i, j, hij => (kw_V.zero N F G).congr (fun a b hab => if_neg (by omega))
  | m + 1, d, hN, hd, i, j, hij => by
    by_cases c0 : N ≤ d
    · exact (kw_V.zero N F G).congr (fun a b hab => if_neg (by omega))
    obtain ⟨A, B, e⟩ := kw_up h hd hij
    obtain ⟨R, hR⟩ : ∃ R : Nat → Nat → K, R = fun a b => kc_t 1 i j a b - (kc_mul A F a b + kc_mul B G a b) := ⟨_, rfl⟩
    have R0 : ∀ a b, a + b ≤ d → R a b = 0 := fun a b hab => by
      rw [hR]
      show kc_t 1 i j a b - (kc_mul A F a b + kc_mul B G a b) = 0
      rw [e a b (by omega), ka_xx]
    have s := kw_V.sum (N := N) (F := F) (G := G) (fun q => R (ndc q).1 (ndc q).2) (fun q => kc_t 1 (ndc q).1 (ndc q).2) (nT N) (fun q hq => by
      by_cases c1 : (ndc q).1 + (ndc q).2 ≤ d
      · exact Or.inl (R0 _ _ c1)
      · exact Or.inr (kw_all h N m _ (by omega) (by omega) _ _ rfl))
    have s2 : kw_V N F G (fun a b => kc_mul A F a b + kc_mul B G a b) := ⟨A, B, fun _ _ _ => rfl⟩
    refine (s2.ac s 1).congr (fun a b hab => ?_)
    show kc_t 1 i j a b = (kc_mul A F a b + kc_mul B G a b) + 1 * ka_s (fun q => R (ndc q).1 (ndc q).2 * kc_t 1 (ndc q).1 (ndc q).2 a b) (nT N)
    rw [kw_terms N R hab, hR]
    exact kw_r2 _ _ _ rfl
theorem kw_r3 {K : Type} [Lean.Grind.CommRing K] (s c v t : K) (h : s + c * t = 0) (hv : c * v = 1) : t = (-v) * s := by
  have e : s = -(c * t) := by grind
  rw [e, show (-v) * -(c * t) = (c * v) * t by grind, hv]; grind
/-- of so many DEGREES one stands still -/
theorem kw_S {K : Type} [Lean.Grind.CommRing K] (hK : ka_F K) {F G : Nat → Nat → K} {n T : Nat} (hT : T ≤ 16) (hn : 153 ≤ n + T) (h : kz_rk (kz_V F G) n) : ∃ k, k ≤ T ∧ ∀ i j, i + j = k → kw_V (k + 1) F G (kc_t 1 i j) := by
  refine Classical.byContradiction fun no => ?_
  have bad : ∀ k, ∃ ij : Nat × Nat, k ≤ T → ij.1 + ij.2 = k ∧ ¬ kw_V (k + 1) F G (kc_t 1 ij.1 ij.2) := fun k => by
    by_cases q : k ≤ T
    · refine Classical.byContradiction fun z => no ⟨k, q, fun i j hij => Classical.byContradiction fun y => z ⟨(i, j), fun _ => ⟨hij, y⟩⟩⟩
    · exact ⟨(0, 0), fun z => absurd z q⟩
  obtain ⟨fi, hfi⟩ : ∃ fi : Nat → Nat × Nat, ∀ k, k ≤ T → (fi k).1 + (fi k).2 = k ∧ ¬ kw_V (k + 1) F G (kc_t 1 (fi k).1 (fi k).2) := ⟨fun k => Classical.choose (bad k), fun k => Classical.choose_spec (bad k)⟩
  obtain ⟨x, x1, x2⟩ := h
  obtain ⟨z, hz⟩ : ∃ z : Nat → Nat → K, z = fun t => if t < n then x t else kp_w 153 (kc_t 1 (fi (t - n)).1 (fi (t - n)).2) := ⟨_, rfl⟩
  have za : ∀ t, t < n → z t = x t := fun t ht => by rw [hz]; exact if_pos ht
  have zb : ∀ k, z (n + k) = kp_w 153 (kc_t 1 (fi k).1 (fi k).2) := fun k => by
    rw [hz]
    show (if n + k < n then x (n + k) else kp_w 153 (kc_t 1 (fi (n + k - n)).1 (fi (n + k - n)).2)) = _
    rw [if_neg (by omega), show n + k - n = k by omega]
  have zf : kl_fr z (n + (T + 1)) := fun a ha => by
    have e0 : ∀ i, ka_s (fun t => a t * x t i) n + ka_s (fun k => a (n + k) * kp_w 153 (kc_t 1 (fi k).1 (fi k).2) i) (T + 1) = 0 := fun i => by
      have q := ha i
      rw [ka_s_split, ka_s_congr (g := fun t => a t * x t i) n (fun t ht => by rw [za t ht]), ka_s_congr (g := fun k => a (n + k) * kp_w 153 (kc_t 1 (fi k).1 (fi k).2) i) (T + 1) (fun k _ => by rw [zb k])] at q
      exact q
    have hi : ∀ k, k < T + 1 → a (n + k) = 0 := fun k => by
      induction k using Nat.strongRecOn with
      | _ k ih =>
        intro hk
        refine Classical.byContradiction fun ne => (hfi k (by omega)).2 ?_
        obtain ⟨v, hv⟩ := hK.2 _ ne
        obtain ⟨A, B, e⟩ := kz_V.sp x2 (v := fun i => ka_s (fun t => a t * x t i) n) ⟨a, fun _ => rfl⟩
        have s2 : kw_V (k + 1) F G (fun a b => kc_mul A F a b + kc_mul B G a b) := ⟨A, B, fun _ _ _ => rfl⟩
        refine ((kw_V.zero (k + 1) F G).ac s2 (-v)).congr (fun i j hij => ?_)
        show kc_t 1 (fi k).1 (fi k).2 i j = 0 + (-v) * (kc_mul A F i j + kc_mul B G i j)
        rw [ka_za]
        refine kw_r3 _ (a (n + k)) _ _ ?_ hv
        have lt := ncol_lt (show i + j < 17 by omega)
        rw [kz_T17.1] at lt
        have q := e0 (ncol i j)
        have e1 := congrFun e (ncol i j)
        have e1 : ka_s (fun t => a t * x t (ncol i j)) n = kp_w 153 (fun i j => kc_mul A F i j + kc_mul B G i j) (ncol i j) := e1
        have w1 : ∀ X : Nat → Nat → K, kp_w 153 X (ncol i j) = X i j := fun X => by
          unfold kp_w kvec
          rw [if_pos lt, ndc_ncol]
        rw [e1, w1, ka_s_one (k := k) (T + 1) hk (fun l hl hne => by
          by_cases c1 : l < k
          · rw [ih l c1 hl, ka_zm]
          · rw [w1, show kc_t (1 : K) (fi l).1 (fi l).2 i j = 0 from if_neg (by have := (hfi l (by omega)).1; omega), ka_mz]), w1] at q
        exact q
    intro t ht
    by_cases q : t < n
    · refine x1 a (fun i => ?_) t q
      have q2 := e0 i
      rw [ka_s_zero (T + 1) (fun k hk => by rw [hi k hk, ka_zm]), ka_az] at q2
      exact q2
    · have := hi (t - n) (by omega)
      rwa [show n + (t - n) = t by omega] at this
  have le := kl_le hK (y := fun t => kl_e t) (n := 153) zf (fun t ht => ⟨z t, fun k => by
    rw [kl_e_sum]
    by_cases q : k < 153
    · rw [if_pos q]
    · rw [if_neg q]
      by_cases c1 : t < n
      · rw [za t c1]
        obtain ⟨A, B, e⟩ := x2 t c1
        rw [e, kz_w0 (by omega)]
      · have := zb (t - n)
        rw [show n + (t - n) = t by omega] at this
        rw [this, kz_w0 (by omega)]⟩)
  omega
/-- all from DEGREE 16 on -/
theorem kw_16 {K : Type} [Lean.Grind.CommRing K] (hK : ka_F K) {F G : Nat → Nat → K} {n : Nat} (hn : 137 ≤ n) (h : kz_rk (kz_V F G) n) (N : Nat) {i j : Nat} (hij : 16 ≤ i + j) : kw_V N F G (kc_t 1 i j) := by
  obtain ⟨k, hk, hs⟩ := kw_S hK (T := 16) (Nat.le_refl _) (by omega) h
  exact kw_all hs N N (i + j) (by omega) (by omega) i j rfl
/-- all from the missing number on -/
theorem kw_top {K : Type} [Lean.Grind.CommRing K] (hK : ka_F K) {F G : Nat → Nat → K} {r : Nat} (hr : 137 ≤ r) (r153 : r ≤ 153) (h : kz_rk (kz_V F G) r) (N : Nat) {i j : Nat} (hij : 153 - r ≤ i + j) : kw_V N F G (kc_t 1 i j) := by
  obtain ⟨k, hk, hs⟩ := kw_S hK (T := 153 - r) (by omega) (by omega) h
  exact kw_all hs N N (i + j) (by omega) (by omega) i j rfl
end ZWa
