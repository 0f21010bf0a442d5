section ZHc
theorem kz_T17 : nT 17 = 153 ∧ nT 16 = 136 ∧ nT 25 = 325 := ⟨rfl, rfl, rfl⟩
/-- lines look at what lies below a DEGREE -/
theorem kz_w {K : Type} [Lean.Grind.CommRing K] {F G : Nat → Nat → K} (h : ∀ i j, i + j < 17 → F i j = G i j) : kp_w 153 F = kp_w 153 G := funext fun k => by
  unfold kp_w kvec
  by_cases q : k < 153
  · rw [if_pos q, if_pos q, h _ _ (ndc_dg (by rw [kz_T17.1]; exact q))]
  · rw [if_neg q, if_neg q]
theorem kz_w' {K : Type} [Lean.Grind.CommRing K] {F G : Nat → Nat → K} (h : kp_w 153 F = kp_w 153 G) {i j : Nat} (hij : i + j < 17) : F i j = G i j := by
  have q := ncol_lt hij
  rw [kz_T17.1] at q
  have e := congrFun h (ncol i j)
  unfold kp_w kvec at e
  rw [if_pos q, if_pos q, ndc_ncol] at e
  exact e
theorem kz_w0 {K : Type} [Lean.Grind.CommRing K] {F : Nat → Nat → K} {k : Nat} (h : 153 ≤ k) : kp_w 153 F k = 0 := if_neg (by omega)
theorem kz_lo {K : Type} [Lean.Grind.CommRing K] {F F' G G' : Nat → Nat → K} {d : Nat} (h1 : ∀ i j, i + j < d → F i j = F' i j) (h2 : ∀ i j, i + j < d → G i j = G' i j) : ∀ i j, i + j < d → kc_mul F G i j = kc_mul F' G' i j := fun i j hij => by
  unfold kc_mul
  exact ka_s_congr _ (fun a ha => ka_s_congr _ (fun b hb => by rw [h1 a b (by omega), h2 (i - a) (j - b) (by omega)]))
/-- a unit times what is not 0 -/
theorem kz_unit {K : Type} [Lean.Grind.CommRing K] (hK : ka_F K) {U X : Nat → Nat → K} {d : Nat} (h0 : U 0 0 ≠ 0) (h : ∀ i j, i + j < d → kc_mul U X i j = 0) : ∀ n i j, i + j = n → n < d → X i j = 0 := fun n => by
  induction n using Nat.strongRecOn with
  | _ n ih =>
    intro i j hij hd
    have e := h i j (by omega)
    unfold kc_mul at e
    rw [ka_s_one (k := 0) (i + 1) (by omega) (fun a ha hne => ka_s_zero _ (fun b hb => by rw [ih (i - a + (j - b)) (by omega) _ _ rfl (by omega), ka_mz])), ka_s_one (k := 0) (j + 1) (by omega) (fun b hb hne => by rw [ih (i - 0 + (j - b)) (by omega) _ _ rfl (by omega), ka_mz])] at e
    rcases hK.dom _ _ e with z | z
    · exact absurd z h0
    · exact z
theorem kz_sumR {K : Type} [Lean.Grind.CommRing K] (U : Nat → Nat → K) (c : Nat → K) (F : Nat → Nat → Nat → K) (m : Nat) : kc_mul U (fun i j => ka_s (fun t => c t * F t i j) m) = fun i j => ka_s (fun t => c t * kc_mul U (F t) i j) m := by
  rw [kc_mul_comm, kc_mul_sumL]
  exact funext fun i => funext fun j => ka_s_congr _ (fun t _ => by rw [kc_mul_comm])
theorem kz_wsum {K : Type} [Lean.Grind.CommRing K] (c : Nat → K) (F : Nat → Nat → Nat → K) (m k : Nat) : ka_s (fun t => c t * kp_w 153 (F t) k) m = kp_w 153 (fun i j => ka_s (fun t => c t * F t i j) m) k := by
  unfold kp_w kvec
  by_cases q : k < 153
  · rw [if_pos q]
    exact ka_s_congr _ (fun t _ => by rw [if_pos q])
  · rw [if_neg q]
    exact ka_s_zero _ (fun t _ => by rw [if_neg q, ka_mz])
/-- free lines times a unit -/
theorem kz_ufr {K : Type} [Lean.Grind.CommRing K] (hK : ka_F K) {U : Nat → Nat → K} {X : Nat → Nat → Nat → K} {n : Nat} (h0 : U 0 0 ≠ 0) (h : kl_fr (fun t => kp_w 153 (X t)) n) : kl_fr (fun t => kp_w 153 (kc_mul U (X t))) n := fun a ha t ht => by
  refine h a (fun k => ?_) t ht
  show ka_s (fun t => a t * kp_w 153 (X t) k) n = 0
  rw [kz_wsum]
  have e : ∀ i j, i + j < 17 → kc_mul U (fun i j => ka_s (fun t => a t * X t i j) n) i j = 0 := fun i j hij => by
    rw [kz_sumR]
    have e1 : kp_w 153 (fun i j => ka_s (fun t => a t * kc_mul U (X t) i j) n) = kp_w 153 (fun _ _ => 0) := funext fun k => by
      rw [← kz_wsum]
      have := ha k
      rw [this]
      unfold kp_w kvec
      split <;> rfl
    exact kz_w' e1 hij
  have z := kz_unit hK h0 e
  have e2 : kp_w 153 (fun i j => ka_s (fun t => a t * X t i j) n) = kp_w 153 (fun _ _ => 0) := kz_w (fun i j hij => z (i + j) i j rfl hij)
  rw [e2]
  unfold kp_w kvec
  split <;> rfl
/-- the lines that two make -/
def kz_V {K : Type} [Lean.Grind.CommRing K] (F G : Nat → Nat → K) (w : Nat → K) : Prop := ∃ A B : Nat → Nat → K, w = kp_w 153 (fun i j => kc_mul A F i j + kc_mul B G i j)
/-- so many free ones -/
def kz_rk {K : Type} [Lean.Grind.CommRing K] (V : (Nat → K) → Prop) (n : Nat) : Prop := ∃ x : Nat → Nat → K, kl_fr x n ∧ ∀ t, t < n → V (x t)
theorem kz_rk.mono {K : Type} [Lean.Grind.CommRing K] {V W : (Nat → K) → Prop} {n : Nat} (h : kz_rk V n) (hVW : ∀ v, V v → W v) : kz_rk W n := by
  obtain ⟨x, x1, x2⟩ := h
  exact ⟨x, x1, fun t ht => hVW _ (x2 t ht)⟩
theorem kz_V.sp {K : Type} [Lean.Grind.CommRing K] {F G : Nat → Nat → K} {x : Nat → Nat → K} {n : Nat} (hx : ∀ t, t < n → kz_V F G (x t)) {v : Nat → K} (hv : kl_sp x n v) : kz_V F G v := by
  have hc : ∀ t, ∃ AB : (Nat → Nat → K) × (Nat → Nat → K), t < n → x t = kp_w 153 (fun i j => kc_mul AB.1 F i j + kc_mul AB.2 G i j) := fun t => by
    by_cases q : t < n
    · obtain ⟨A, B, h⟩ := hx t q
      exact ⟨(A, B), fun _ => h⟩
    · exact ⟨(fun _ _ => 0, fun _ _ => 0), fun z => absurd z q⟩
  obtain ⟨a, ha⟩ := hv
  refine ⟨fun i j => ka_s (fun t => a t * (Classical.choose (hc t)).1 i j) n, fun i j => ka_s (fun t => a t * (Classical.choose (hc t)).2 i j) n, funext fun k => ?_⟩
  rw [ha k, kc_mul_sumL, kc_mul_sumL]
  have e : ka_s (fun t => a t * x t k) n = ka_s (fun t => a t * kp_w 153 (fun i j => kc_mul (Classical.choose (hc t)).1 F i j + kc_mul (Classical.choose (hc t)).2 G i j) k) n := ka_s_congr _ (fun t ht => by rw [← Classical.choose_spec (hc t) ht])
  rw [e, kz_wsum]
  refine congrFun (congrArg (kp_w 153) (funext fun i => funext fun j => ?_)) k
  rw [← ka_s_add]
  exact ka_s_congr _ (fun t _ => Lean.Grind.Semiring.left_distrib _ _ _)
/-- never more than there are places -/
theorem kz_rk.le {K : Type} [Lean.Grind.CommRing K] (hK : ka_F K) {F G : Nat → Nat → K} {n : Nat} (h : kz_rk (kz_V F G) n) : n ≤ 153 := by
  obtain ⟨x, x1, x2⟩ := h
  refine kl_le hK (y := fun t => kl_e t) x1 (fun t ht => ⟨x t, fun k => ?_⟩)
  rw [kl_e_sum]
  by_cases q : k < 153
  · rw [if_pos q]
  · rw [if_neg q]
    obtain ⟨A, B, e⟩ := x2 t ht
    rw [e, kz_w0 (by omega)]
/-- the multiples of one that is 0 there -/
theorem kz_one {K : Type} [Lean.Grind.CommRing K] (hK : ka_F K) {G : Nat → Nat → K} (hG : G 0 0 = 0) {x : Nat → Nat → K} {n : Nat} (hx : kl_fr x n) (h : ∀ t, t < n → ∃ C, x t = kp_w 153 (kc_mul C G)) : n ≤ 136 := by
  refine kl_le hK (y := fun t => kp_w 153 (kc_mul (kc_t 1 (ndc t).1 (ndc t).2) G)) hx (fun t ht => ?_)
  obtain ⟨C, hC⟩ := h t ht
  refine ⟨fun k => C (ndc k).1 (ndc k).2, fun k => ?_⟩
  show x t k = ka_s (fun s => C (ndc s).1 (ndc s).2 * kp_w 153 (kc_mul (kc_t 1 (ndc s).1 (ndc s).2) G) k) 136
  rw [hC, kz_wsum]
  obtain ⟨D, hD⟩ : ∃ D : Nat → Nat → K, D = fun i j => if ncol i j < 136 then C i j else 0 := ⟨_, rfl⟩
  have e1 : ∀ i j, i + j < 17 → kc_mul C G i j = kc_mul D G i j := fun i j hij => by
    unfold kc_mul
    refine ka_s_congr _ (fun a ha => ka_s_congr _ (fun b hb => ?_))
    by_cases q : a + b < 16
    · have := ncol_lt q
      rw [kz_T17.2.1] at this
      rw [hD]
      show _ = (if ncol a b < 136 then C a b else 0) * _
      rw [if_pos this]
    · rw [show i - a = 0 by omega, show j - b = 0 by omega, hG, ka_mz, ka_mz]
  have e2 : ∀ i j, kc_mul D G i j = ka_s (fun s => C (ndc s).1 (ndc s).2 * kc_mul (kc_t 1 (ndc s).1 (ndc s).2) G i j) 136 := fun i j => by
    rw [kc_sum_t (P := D) (N := 136) G (fun i j hij => by rw [hD]; exact if_neg (by omega))]
    refine ka_s_congr _ (fun s hs => ?_)
    rw [hD]
    show (if ncol (ndc s).1 (ndc s).2 < 136 then C (ndc s).1 (ndc s).2 else 0) * _ = _
    rw [ncol_ndc, if_pos hs]
  exact congrFun (kz_w (fun i j hij => (e1 i j hij).trans (e2 i j))) k
theorem kz_r1 {K : Type} [Lean.Grind.CommRing K] (a b c : K) (h : a = b + c) : 1 * a + (-1) * b = c := by grind
theorem kz_r2 {K : Type} [Lean.Grind.CommRing K] (a b : K) (h : a + 0 = b) : a = b := by grind
/-- a SPLIT makes one more -/
theorem kz_split {K : Type} [Lean.Grind.CommRing K] (hK : ka_F K) {F F1 G : Nat → Nat → K} {n : Nat} (hG : G 0 0 = 0) (hF : ∀ i j, i + j < 17 → F i j = kc_mul (kc_t 1 0 1) F1 i j) (hn : 137 ≤ n) (h : kz_rk (kz_V F G) n) : kz_rk (kz_V F1 G) (n + 1) := by
  obtain ⟨x, x1, x2⟩ := h
  have sub : ∀ v, kz_V F G v → kz_V F1 G v := fun v ⟨A, B, e⟩ => ⟨kc_mul A (kc_t 1 0 1), B, by
    rw [e]
    refine kz_w (fun i j hij => ?_)
    show kc_mul A F i j + kc_mul B G i j = kc_mul (kc_mul A (kc_t 1 0 1)) F1 i j + kc_mul B G i j
    rw [kc_mul_assoc, kz_lo (d := 17) (F := A) (F' := A) (fun _ _ _ => rfl) hF i j hij]⟩
  by_cases al : ∀ v, kz_V F1 G v → kl_sp x n v
  · exfalso
    have v1 : kz_V F1 G (kp_w 153 F1) := ⟨kc_t 1 0 0, fun _ _ => 0, congrArg (kp_w 153) (funext fun i => funext fun j => by rw [kc_1_mul, kc_zmul, ka_az])⟩
    obtain ⟨A, B, e⟩ := kz_V.sp x2 (al _ v1)
    have e1 : ∀ i j, i + j < 17 → F1 i j = kc_mul A F i j + kc_mul B G i j := fun i j hij => kz_w' e hij
    obtain ⟨U, hU⟩ : ∃ U : Nat → Nat → K, U = fun i j => 1 * kc_t 1 0 0 i j + (-1) * kc_mul A (kc_t 1 0 1) i j := ⟨_, rfl⟩
    have U0 : U 0 0 ≠ 0 := by
      have : kc_mul A (kc_t 1 0 1) 0 0 = 0 := by
        rw [kc_mul_comm, kc_t_mul, if_neg (by omega)]
      rw [hU]
      show 1 * kc_t (1 : K) 0 0 0 0 + (-1) * kc_mul A (kc_t 1 0 1) 0 0 ≠ 0
      rw [this, ka_mz, ka_az, ka_om]
      show (if 0 = 0 ∧ 0 = 0 then (1 : K) else 0) ≠ 0
      rw [if_pos ⟨rfl, rfl⟩]
      exact hK.1
    have UF : ∀ i j, i + j < 17 → kc_mul U F1 i j = kc_mul B G i j := fun i j hij => by
      have e2 : kc_mul U F1 = fun i j => 1 * F1 i j + (-1) * kc_mul A (kc_mul (kc_t 1 0 1) F1) i j := by
        rw [hU, kc_mul_add, kc_mul_c, kc_mul_c, kc_1_mul, kc_mul_assoc]
      rw [e2]
      show 1 * F1 i j + (-1) * kc_mul A (kc_mul (kc_t 1 0 1) F1) i j = _
      rw [← kz_lo (d := 17) (F := A) (F' := A) (fun _ _ _ => rfl) hF i j hij]
      exact kz_r1 _ _ _ (e1 i j hij)
    have hc : ∀ t, ∃ AB : (Nat → Nat → K) × (Nat → Nat → K), t < n → x t = kp_w 153 (fun i j => kc_mul AB.1 F i j + kc_mul AB.2 G i j) := fun t => by
      by_cases q : t < n
      · obtain ⟨A, B, h⟩ := x2 t q
        exact ⟨(A, B), fun _ => h⟩
      · exact ⟨(fun _ _ => 0, fun _ _ => 0), fun z => absurd z q⟩
    obtain ⟨X, hX⟩ : ∃ X : Nat → Nat → Nat → K, X = fun t i j => kc_mul (Classical.choose (hc t)).1 F i j + kc_mul (Classical.choose (hc t)).2 G i j := ⟨_, rfl⟩
    have fr : kl_fr (fun t => kp_w 153 (X t)) n := kl_fr_congr x1 (fun t ht => by
      rw [hX]
      exact Classical.choose_spec (hc t) ht)
    have le := kz_one hK hG (kz_ufr hK U0 fr) (fun t ht => by
      obtain ⟨P, hP⟩ : ∃ P, P = (Classical.choose (hc t)).1 := ⟨_, rfl⟩
      obtain ⟨Q, hQ⟩ : ∃ Q, Q = (Classical.choose (hc t)).2 := ⟨_, rfl⟩
      have eX : X t = fun i j => kc_mul P F i j + kc_mul Q G i j := by rw [hX, hP, hQ]
      refine ⟨fun i j => kc_mul (kc_mul P (kc_t 1 0 1)) B i j + kc_mul U Q i j, kz_w (fun i j hij => ?_)⟩
      rw [eX, kc_mul_comm U, kc_mul_add, kc_mul_add]
      show kc_mul (kc_mul P F) U i j + kc_mul (kc_mul Q G) U i j = kc_mul (kc_mul (kc_mul P (kc_t 1 0 1)) B) G i j + kc_mul (kc_mul U Q) G i j
      have a1 : kc_mul (kc_mul P F) U i j = kc_mul (kc_mul (kc_mul P (kc_t 1 0 1)) B) G i j := by
        rw [kc_mul_assoc P F U, kc_mul_assoc (kc_mul P (kc_t 1 0 1)) B G, kc_mul_assoc P (kc_t 1 0 1)]
        refine kz_lo (d := 17) (F := P) (F' := P) (fun _ _ _ => rfl) (fun a b hab => ?_) i j hij
        rw [kz_lo (d := 17) (G := U) (G' := U) hF (fun _ _ _ => rfl) a b hab, kc_mul_assoc]
        refine kz_lo (d := 17) (F := kc_t 1 0 1) (F' := kc_t 1 0 1) (fun _ _ _ => rfl) (fun c e hce => ?_) a b hab
        rw [kc_mul_comm]
        exact UF c e hce
      have a2 : kc_mul (kc_mul Q G) U i j = kc_mul (kc_mul U Q) G i j := by
        rw [kc_mul_comm _ U, kc_mul_assoc]
      rw [a1, a2])
    omega
  · obtain ⟨v, hv⟩ := Classical.not_forall.1 al
    have hv1 : kz_V F1 G v := Classical.byContradiction fun z => hv (fun y => absurd y z)
    have hv2 : ¬ kl_sp x n v := fun z => hv (fun _ => z)
    refine ⟨fun t => if t < n then x t else v, kl_fr_s hK (kl_fr_congr x1 (fun t ht => (if_pos ht).symm)) (fun z => hv2 ?_), fun t ht => ?_⟩
    · have z' : kl_sp (fun t => if t < n then x t else v) n (if n < n then x n else v) := z
      rw [if_neg (Nat.lt_irrefl _)] at z'
      exact kl_sp_congr z' (fun t ht => if_pos ht)
    · show kz_V F1 G (if t < n then x t else v)
      by_cases q : t < n
      · rw [if_pos q]; exact sub _ (x2 t q)
      · rw [if_neg q]; exact hv1
/-- not both without pure TERMS -/
theorem kz_pure {K : Type} [Lean.Grind.CommRing K] (hK : ka_F K) {F G : Nat → Nat → K} {n : Nat} (hn : 137 ≤ n) (hF : ∀ i, i < 17 → F i 0 = 0) (hG : ∀ i, i < 17 → G i 0 = 0) (h : kz_rk (kz_V F G) n) : False := by
  obtain ⟨x, x1, x2⟩ := h
  have dv : ∀ F : Nat → Nat → K, (∀ i, i < 17 → F i 0 = 0) → ∀ i j, i + j < 17 → F i j = kc_mul (fun i j => F i (j + 1)) (kc_t 1 0 1) i j := fun F hF i j hij => by
    rw [kc_mul_comm, kc_t_mul]
    by_cases q : 1 ≤ j
    · rw [if_pos ⟨Nat.zero_le _, q⟩, ka_om, show j - 1 + 1 = j by omega]
      rfl
    · rw [if_neg (fun z => q z.2), show j = 0 by omega]
      exact hF i (by omega)
  have le := kz_one hK (G := kc_t (1 : K) 0 1) (by
    show (if 0 = 0 ∧ 0 = 1 then (1 : K) else 0) = 0
    rw [if_neg (by omega)]) x1 (fun t ht => by
    obtain ⟨A, B, e⟩ := x2 t ht
    refine ⟨fun i j => kc_mul A (fun i j => F i (j + 1)) i j + kc_mul B (fun i j => G i (j + 1)) i j, ?_⟩
    rw [e]
    refine kz_w (fun i j hij => ?_)
    show kc_mul A F i j + kc_mul B G i j = _
    rw [kc_mul_add]
    show _ = kc_mul (kc_mul A (fun i j => F i (j + 1))) (kc_t 1 0 1) i j + kc_mul (kc_mul B (fun i j => G i (j + 1))) (kc_t 1 0 1) i j
    rw [kc_mul_assoc, kc_mul_assoc, kz_lo (d := 17) (F := A) (F' := A) (fun _ _ _ => rfl) (dv F hF) i j hij, kz_lo (d := 17) (F := B) (F' := B) (fun _ _ _ => rfl) (dv G hG) i j hij])
  omega
end ZHc
