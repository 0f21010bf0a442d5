section ZId
/-- a POLYNOMIAL goes down by the divisor -/
theorem kdec {K : Type} [Lean.Grind.CommRing K] {p : Int} {φ : Int → K} (h : zKp K p φ) (hp : 2 ≤ p) {d : Nat → Int} (hd : ∀ i j : Nat, i + j ≤ 4 → 0 ≤ d (5 * i + j) ∧ d (5 * i + j) < p) {lc : Int} {x y top D : Nat} (hxy : x + y ≤ 4) (ht : top ≤ 24) (hL : kLe (zq φ d) lc x y) (hD : D ≤ top) (hD2 : lc = 0 ∨ D = top) (B : Nat → Nat → K) (hB : ∀ i j, D < i + j → B i j = 0) : ∃ β C1 : Nat → Nat → K, (∀ i j, D < i + j + (x + y) → C1 i j = 0) ∧ (∀ i j, i + j ≤ top → x ≤ i → y ≤ j → β i j = 0) ∧ (∀ i j, D < i + j → β i j = 0) ∧ ∀ i j, i + j ≤ top → B i j = β i j + kc_mul C1 (zq φ d) i j := by
  obtain ⟨r, hr⟩ : ∃ r : Nat → Int, r = fun k => Classical.choose (h.su (B (k / 25) (k % 25))) := ⟨_, rfl⟩
  have rs : ∀ k, 0 ≤ r k ∧ r k < p ∧ φ (r k) = B (k / 25) (k % 25) := fun k => by rw [hr]; exact Classical.choose_spec (h.su (B (k / 25) (k % 25)))
  have rat : ∀ i j, i + j ≤ top → φ (r (25 * i + j)) = B i j := fun i j hij => by
    have := (rs (25 * i + j)).2.2
    rw [show (25 * i + j) / 25 = i by omega, show (25 * i + j) % 25 = j by omega] at this
    exact this
  have cr : zcan p r := fun k => ⟨(rs k).1, (rs k).2.1⟩
  obtain ⟨k1, k2, k3, C, c1, c2⟩ := kred h hp hd hxy ht hL hD hD2 cr (fun A B' a b => (h.z0 (cr _)).1 (by rw [rat A B' a, hB A B' b]))
  refine ⟨krw φ top (zredr r d x y p top lc), fun i j => (-1) * C i j, fun i j hij => ?_, fun i j a b c => ?_, fun i j hij => ?_, fun i j hij => ?_⟩
  · show (-1) * C i j = 0
    rw [c1 i j hij, ka_mz]
  · rw [krw_t a, k3 i j a b c trivial, h.z]
  · unfold krw
    by_cases q : i + j ≤ top
    · rw [if_pos q, k2 i j q hij, h.z]
    · rw [if_neg q]
  · rw [c2 i j hij, krw_t hij, rat i j hij, kc_mul_c]
    show B i j = B i j + kc_mul C (zq φ d) i j + (-1) * kc_mul C (zq φ d) i j
    generalize kc_mul C (zq φ d) i j = z
    generalize B i j = b
    grind
/-- a multiple of the divisor and what has columns -/
def kGd {K : Type} [Lean.Grind.CommRing K] (F : Nat → Nat → K) (lc : Int) (L top n : Nat) (Z : Nat → Nat → K) (v : Nat → K) : Prop := ∃ (C : Nat → Nat → K) (u : Nat → K), (lc = 0 → ∀ i j, top < i + j + L → C i j = 0) ∧ kl_sp Z n u ∧ v = fun k => kp_w (nT (top + 1)) (kc_mul C F) k + u k
theorem kr_4 {K : Type} [Lean.Grind.CommRing K] (a b c d e : K) : a + b + c * (d + e) = (a + c * d) + (b + c * e) := by grind
theorem kp_wac {K : Type} [Lean.Grind.CommRing K] (W : Nat) (F G : Nat → Nat → K) (c : K) (k : Nat) : kp_w W (fun i j => F i j + c * G i j) k = kp_w W F k + c * kp_w W G k := by
  unfold kp_w kvec
  by_cases q : k < W
  · rw [if_pos q, if_pos q, if_pos q]
  · rw [if_neg q, if_neg q, if_neg q, ka_mz, ka_az]
theorem kp_wz {K : Type} [Lean.Grind.CommRing K] (W k : Nat) : kp_w W (fun _ _ => (0 : K)) k = 0 := by
  unfold kp_w kvec
  split <;> rfl
theorem kGd_C {K : Type} [Lean.Grind.CommRing K] (F : Nat → Nat → K) (lc : Int) (L top n : Nat) (Z : Nat → Nat → K) : kp_C (kGd F lc L top n Z) := by
  refine ⟨⟨fun _ _ => 0, fun _ => 0, fun _ _ _ _ => rfl, kl_sp_zero _ _, funext fun k => ?_⟩, fun v w c ⟨C, u, c1, c2, c3⟩ ⟨C', u', d1, d2, d3⟩ => ⟨fun i j => C i j + c * C' i j, fun k => u k + c * u' k, fun l i j hij => ?_, kl_sp_add c2 d2 c, funext fun k => ?_⟩⟩
  · rw [show kc_mul (fun _ _ => 0) F = fun _ _ => (0 : K) from funext fun i => funext fun j => kc_zmul F i j, kp_wz, ka_az]
  · show C i j + c * C' i j = 0
    rw [c1 l i j hij, d1 l i j hij, ka_mz, ka_az]
  · rw [c3, d3, kc_mul_ac]
    show kp_w (nT (top + 1)) (kc_mul C F) k + u k + c * (kp_w (nT (top + 1)) (kc_mul C' F) k + u' k) = kp_w (nT (top + 1)) (fun i j => kc_mul C F i j + c * kc_mul C' F i j) k + (u k + c * u' k)
    rw [kp_wac]
    exact kr_4 _ _ _ _ _
theorem kGd_F {K : Type} [Lean.Grind.CommRing K] {F : Nat → Nat → K} {lc : Int} {L top n : Nat} {Z : Nat → Nat → K} (C : Nat → Nat → K) (hC : lc = 0 → ∀ i j, top < i + j + L → C i j = 0) : kGd F lc L top n Z (kp_w (nT (top + 1)) (kc_mul C F)) := ⟨C, fun _ => 0, hC, kl_sp_zero _ _, funext fun k => (ka_az _).symm⟩
theorem kGd_u {K : Type} [Lean.Grind.CommRing K] {F : Nat → Nat → K} {lc : Int} {L top n : Nat} {Z : Nat → Nat → K} {u : Nat → K} (hu : kl_sp Z n u) : kGd F lc L top n Z u := ⟨fun _ _ => 0, u, fun _ _ _ _ => rfl, hu, funext fun k => by
  rw [show kc_mul (fun _ _ => 0) F = fun _ _ => (0 : K) from funext fun i => funext fun j => kc_zmul F i j, kp_wz, ka_za]⟩
/-- the multiplier can be taken small -/
theorem kGd_bd {K : Type} [Lean.Grind.CommRing K] {F : Nat → Nat → K} {lc : Int} {x y top n : Nat} {Z : Nat → Nat → K} {v : Nat → K} (hL : kLe F lc x y) (hv : kGd F lc (x + y) top n Z v) : ∃ (C : Nat → Nat → K) (u : Nat → K), (∀ i j, top < i + j + (x + y) → C i j = 0) ∧ kl_sp Z n u ∧ v = fun k => kp_w (nT (top + 1)) (kc_mul C F) k + u k := by
  obtain ⟨C, u, c1, c2, c3⟩ := hv
  by_cases l : lc = 0
  · exact ⟨C, u, c1 l, c2, c3⟩
  · refine ⟨fun i j => if i + j + (x + y) ≤ top then C i j else 0, u, fun i j hij => if_neg (by omega), c2, ?_⟩
    rw [c3]
    refine funext fun k => congr (congrArg _ (congrFun (kp_weq (fun i j hij => ?_)) k)) rfl
    unfold kc_mul
    refine ka_s_congr _ (fun a ha => ka_s_congr _ (fun b hb => ?_))
    show C a b * F (i - a) (j - b) = (if a + b + (x + y) ≤ top then C a b else 0) * F (i - a) (j - b)
    by_cases q : a + b + (x + y) ≤ top
    · rw [if_pos q]
    · rw [if_neg q, ka_zm]
      by_cases z : F (i - a) (j - b) = 0
      · rw [z, ka_mz]
      · have := hL.2 _ _ z
        rw [if_neg l] at this
        omega
theorem kp_sums {K : Type} [Lean.Grind.CommRing K] {G : (Nat → K) → Prop} (hG : kp_C G) (c : Nat → K) (X : Nat → Nat → K) : ∀ m, (∀ t, t < m → c t = 0 ∨ G (X t)) → G (fun k => ka_s (fun t => c t * X t k) m) := fun m => by
  induction m with
  | zero => intro _; exact hG.1
  | succ m ih =>
    intro hx
    have e := ih (fun t ht => hx t (by omega))
    rcases hx m (by omega) with z | z
    · have e2 : (fun k => ka_s (fun t => c t * X t k) (m + 1)) = fun k => ka_s (fun t => c t * X t k) m := funext fun k => by
        show ka_s (fun t => c t * X t k) m + c m * X m k = _
        rw [z, ka_zm, ka_az]
      rw [e2]
      exact e
    · exact hG.2 _ _ (c m) e z
/-- all that two make -/
theorem kGd_all {K : Type} [Lean.Grind.CommRing K] {p : Int} {φ : Int → K} (h : zKp K p φ) (hp : 2 ≤ p) {d : Nat → Int} (hd : ∀ i j : Nat, i + j ≤ 4 → 0 ≤ d (5 * i + j) ∧ d (5 * i + j) < p) {lc : Int} {x y top D m n : Nat} (hxy : x + y ≤ 4) (ht : top ≤ 24) (hL : kLe (zq φ d) lc x y) (hD : D ≤ top) (hD2 : lc = 0 ∨ D = top) {g : Nat → Nat → K} (hg : lc = 0 → D + m ≤ top ∧ ∀ i j, m < i + j → g i j = 0) {Z : Nat → Nat → K} (hZ : ∀ i j, i + j ≤ D → ¬ (x ≤ i ∧ y ≤ j) → ∃ C : Nat → Nat → K, (∀ a b, top < a + b + (x + y) → C a b = 0) ∧ kl_sp Z n (kp_w (nT (top + 1)) (fun a b => kc_mul (kc_t 1 i j) g a b + kc_mul C (zq φ d) a b))) (A B : Nat → Nat → K) (hA : lc = 0 → ∀ i j, top < i + j + (x + y) → A i j = 0) (hB : lc = 0 → ∀ i j, D < i + j → B i j = 0) : kGd (zq φ d) lc (x + y) top n Z (kp_w (nT (top + 1)) (fun i j => kc_mul A (zq φ d) i j + kc_mul B g i j)) := by
  have GC := kGd_C (zq φ d) lc (x + y) top n Z
  obtain ⟨B', hB'⟩ : ∃ B' : Nat → Nat → K, B' = fun i j => if i + j ≤ D then B i j else 0 := ⟨_, rfl⟩
  have BB : ∀ i j, i + j < top + 1 → B i j = B' i j := fun i j hij => by
    rw [hB']
    show B i j = if i + j ≤ D then B i j else 0
    by_cases q : i + j ≤ D
    · rw [if_pos q]
    · rw [if_neg q]
      rcases hD2 with l | l
      · exact hB l i j (by omega)
      · omega
  obtain ⟨β, C1, b1, b2, b3, b4⟩ := kdec h hp hd hxy ht hL hD hD2 B' (fun i j hij => by rw [hB']; exact if_neg (by omega))
  have one : ∀ i j, i + j ≤ D → ¬ (x ≤ i ∧ y ≤ j) → kGd (zq φ d) lc (x + y) top n Z (kp_w (nT (top + 1)) (kc_mul (kc_t 1 i j) g)) := fun i j hij hn => by
    obtain ⟨C, c1, c2⟩ := hZ i j hij hn
    have s := GC.2 _ _ (-1) (kGd_u (F := zq φ d) (lc := lc) (L := x + y) (top := top) c2) (kGd_F C (fun _ => c1))
    refine (congrArg (kGd (zq φ d) lc (x + y) top n Z) (funext fun k => ?_)).mp s
    rw [← kp_wac]
    refine congrFun (congrArg (kp_w (nT (top + 1))) (funext fun a => funext fun b => ?_)) k
    show kc_mul (kc_t 1 i j) g a b + kc_mul C (zq φ d) a b + (-1) * kc_mul C (zq φ d) a b = _
    generalize kc_mul C (zq φ d) a b = z1
    generalize kc_mul (kc_t 1 i j) g a b = z2
    grind
  have sm := kp_sums GC (fun s => β (ndc s).1 (ndc s).2) (fun s => kp_w (nT (top + 1)) (kc_mul (kc_t 1 (ndc s).1 (ndc s).2) g)) (nT (D + 1)) (fun s hs => by
    have dg := ndc_dg hs
    by_cases q : x ≤ (ndc s).1 ∧ y ≤ (ndc s).2
    · exact Or.inl (b2 _ _ (by omega) q.1 q.2)
    · exact Or.inr (one _ _ (by omega) q))
  have s1 : kGd (zq φ d) lc (x + y) top n Z (kp_w (nT (top + 1)) (kc_mul β g)) := by
    refine (congrArg (kGd (zq φ d) lc (x + y) top n Z) (funext fun k => ?_)).mp sm
    rw [kp_wsum]
    refine congrFun (congrArg (kp_w (nT (top + 1))) (funext fun i => funext fun j => ?_)) k
    exact (kc_sum_t (P := β) (N := nT (D + 1)) g (fun i j hij => b3 i j (Classical.byContradiction fun z => by
      have := ncol_lt (i := i) (j := j) (d := D + 1) (by omega)
      omega)) i j).symm
  have s2 := kGd_F (F := zq φ d) (n := n) (Z := Z) (top := top) (lc := lc) (L := x + y) (kc_mul C1 g) (fun l i j hij => by
    obtain ⟨g1, g2⟩ := hg l
    by_cases q : x + y ≤ D
    · exact kc_zero (n := D - (x + y)) (m := m) (fun a b hab => b1 a b (by omega)) g2 i j (by omega)
    · rw [show C1 = fun _ _ => 0 from funext fun a => funext fun b => b1 a b (by omega)]
      exact kc_zmul g i j)
  have s3 := kGd_F (F := zq φ d) (n := n) (Z := Z) (top := top) (lc := lc) (L := x + y) A hA
  have s4 := GC.2 _ _ 1 (GC.2 _ _ 1 s3 s1) s2
  refine (congrArg (kGd (zq φ d) lc (x + y) top n Z) (funext fun k => ?_)).mp s4
  rw [← kp_wac, ← kp_wac]
  refine congrFun (kp_weq (fun i j hij => ?_)) k
  show kc_mul A (zq φ d) i j + 1 * kc_mul β g i j + 1 * kc_mul (kc_mul C1 g) (zq φ d) i j = kc_mul A (zq φ d) i j + kc_mul B g i j
  have e1 : kc_mul B g i j = kc_mul (fun a b => β a b + 1 * kc_mul C1 (zq φ d) a b) g i j := kz_lo (d := top + 1) (fun a b hab => by
    rw [BB a b hab, b4 a b (by omega), ka_om]) (fun _ _ _ => rfl) i j (by omega)
  have e2 : kc_mul (kc_mul C1 g) (zq φ d) i j = kc_mul (kc_mul C1 (zq φ d)) g i j := by
    rw [kc_mul_assoc, kc_mul_comm g, ← kc_mul_assoc]
  rw [e1, kc_mul_ac, e2]
  show _ = kc_mul A (zq φ d) i j + (kc_mul β g i j + 1 * kc_mul (kc_mul C1 (zq φ d)) g i j)
  rw [ka_om, ka_om]
  exact Lean.Grind.Semiring.add_assoc _ _ _
end ZId
