section ZWj
/-- an ideal of POLYNOMIALS up to DEGREE 24 -/
def kN_U {K : Type} [Lean.Grind.CommRing K] (U : (Nat → K) → Prop) : Prop := kl_cl U ∧ (∀ v, U v → ∀ k, 325 ≤ k → v k = 0) ∧ ∀ (a b : Nat) (A P : Nat → Nat → K), a + b ≤ 24 → (∀ i j, a < i + j → A i j = 0) → (∀ i j, b < i + j → P i j = 0) → U (kp_w 325 P) → U (kp_w 325 (kc_mul A P))
theorem kp_wab {K : Type} [Lean.Grind.CommRing K] (W : Nat) (P Q : Nat → Nat → K) (a b : K) : kp_w W (fun i j => a * P i j + b * Q i j) = fun k => a * kp_w W P k + b * kp_w W Q k := funext fun k => by
  unfold kp_w kvec
  by_cases c : k < W
  · rw [if_pos c, if_pos c, if_pos c]
  · rw [if_neg c, if_neg c, if_neg c, ka_mz, ka_mz, ka_az]
theorem kp_w00 {K : Type} [Lean.Grind.CommRing K] (W : Nat) : kp_w W (fun _ _ => (0 : K)) = fun _ => 0 := funext fun k => kp_wz W k
theorem kN_z {K : Type} [Lean.Grind.CommRing K] {U : (Nat → K) → Prop} (hU : kN_U U) : U (kp_w 325 (fun _ _ => 0)) := by
  rw [kp_w00]
  exact hU.1.z
/-- below a DEGREE but for the ideal -/
def kN_S {K : Type} [Lean.Grind.CommRing K] (U : (Nat → K) → Prop) (k : Nat) (P : Nat → Nat → K) : Prop := ∃ D E : Nat → Nat → K, (∀ i j, k ≤ i + j → D i j = 0) ∧ (∀ i j, 24 < i + j → E i j = 0) ∧ U (kp_w 325 E) ∧ ∀ i j, P i j = D i j + E i j
theorem kN_S.ab {K : Type} [Lean.Grind.CommRing K] {U : (Nat → K) → Prop} (hU : kN_U U) {k : Nat} {P Q : Nat → Nat → K} (hP : kN_S U k P) (hQ : kN_S U k Q) (a b : K) : kN_S U k (fun i j => a * P i j + b * Q i j) := by
  obtain ⟨D, E, h1, h2, h3, h4⟩ := hP
  obtain ⟨D', E', g1, g2, g3, g4⟩ := hQ
  refine ⟨fun i j => a * D i j + b * D' i j, fun i j => a * E i j + b * E' i j, fun i j hij => ?_, fun i j hij => ?_, ?_, fun i j => ?_⟩
  · show a * D i j + b * D' i j = 0
    rw [h1 i j hij, g1 i j hij, ka_mz, ka_mz, ka_az]
  · show a * E i j + b * E' i j = 0
    rw [h2 i j hij, g2 i j hij, ka_mz, ka_mz, ka_az]
  · rw [kp_wab]
    exact hU.1.s h3 g3 a b
  · show a * P i j + b * Q i j = a * D i j + b * D' i j + (a * E i j + b * E' i j)
    rw [h4, g4]
    grind
theorem kN_S.low {K : Type} [Lean.Grind.CommRing K] {U : (Nat → K) → Prop} (hU : kN_U U) {k : Nat} {P : Nat → Nat → K} (hP : ∀ i j, k ≤ i + j → P i j = 0) : kN_S U k P := ⟨P, fun _ _ => 0, hP, fun _ _ _ => rfl, kN_z hU, fun i j => (ka_az _).symm⟩
theorem kN_S.sum {K : Type} [Lean.Grind.CommRing K] {U : (Nat → K) → Prop} (hU : kN_U U) {k : Nat} (c : Nat → K) (F : Nat → Nat → Nat → K) : ∀ m, (∀ t, t < m → kN_S U k (F t)) → kN_S U k (fun i j => ka_s (fun t => c t * F t i j) m)
  | 0, _ => kN_S.low hU (fun _ _ _ => rfl)
  | m + 1, h => by
    have q := (kN_S.sum hU c F m (fun t ht => h t (by omega))).ab hU (h m (by omega)) 1 (c m)
    refine Eq.mp (congrArg (kN_S U k) (funext fun i => funext fun j => ?_)) q
    show 1 * ka_s (fun t => c t * F t i j) m + c m * F m i j = ka_s (fun t => c t * F t i j) m + c m * F m i j
    rw [ka_om]
theorem kN_S.mono {K : Type} [Lean.Grind.CommRing K] {U : (Nat → K) → Prop} {k l : Nat} {P : Nat → Nat → K} (h : kN_S U k P) (hkl : k ≤ l) : kN_S U l P := by
  obtain ⟨D, E, h1, h2, h3, h4⟩ := h
  exact ⟨D, E, fun i j hij => h1 i j (by omega), h2, h3, h4⟩
/-- as a sum of TERMS -/
theorem kw_terms2 {K : Type} [Lean.Grind.CommRing K] {N : Nat} {P : Nat → Nat → K} (hP : ∀ i j, N ≤ i + j → P i j = 0) : (fun a b => ka_s (fun q => P (ndc q).1 (ndc q).2 * kc_t 1 (ndc q).1 (ndc q).2 a b) (nT N)) = P := funext fun a => funext fun b => by
  by_cases c : a + b < N
  · exact kw_terms N P c
  · rw [hP a b (by omega)]
    refine ka_s_zero _ (fun q hq => ?_)
    have := ndc_dg hq
    rw [show kc_t (1 : K) (ndc q).1 (ndc q).2 a b = 0 from if_neg (by omega), ka_mz]
theorem kN_step {K : Type} [Lean.Grind.CommRing K] {U : (Nat → K) → Prop} (hU : kN_U U) {k e r u i j : Nat} (hk : ∀ i j, i + j = k → kN_S U k (kc_t 1 i j)) (hke : k ≤ e) (he : e < 24) (hru : r + u = 1) (hij : i + j = e) (h : kN_S U k (kc_t 1 i j)) : kN_S U k (kc_t 1 (r + i) (u + j)) := by
  obtain ⟨D, E, h1, h2, h3, h4⟩ := h
  have E0 : ∀ a b, e < a + b → E a b = 0 := fun a b hab => by
    have q := h4 a b
    rw [show kc_t (1 : K) i j a b = 0 from if_neg (by omega), h1 a b (by omega), ka_za] at q
    exact q.symm
  have X0 : ∀ a b, 1 < a + b → kc_t (1 : K) r u a b = 0 := kc_t_dg (by omega)
  have U1 := hU.2.2 1 e (kc_t 1 r u) E (by omega) X0 E0 h3
  have XD : ∀ a b, k + 1 ≤ a + b → kc_mul (kc_t (1 : K) r u) D a b = 0 := fun a b hab => by
    rw [kc_t_mul]
    by_cases c : r ≤ a ∧ u ≤ b
    · rw [if_pos c, h1 _ _ (by omega), ka_mz]
    · rw [if_neg c]
  have S1 : kN_S U k (kc_mul (kc_t 1 r u) D) := by
    have q := kN_S.sum hU (k := k) (fun q => kc_mul (kc_t (1 : K) r u) D (ndc q).1 (ndc q).2) (fun q => kc_t 1 (ndc q).1 (ndc q).2) (nT (k + 1)) (fun q hq => by
      have := ndc_dg hq
      by_cases c : (ndc q).1 + (ndc q).2 = k
      · exact hk _ _ c
      · exact kN_S.low hU (fun a b hab => if_neg (by omega)))
    rw [kw_terms2 XD] at q
    exact q
  have S2 : kN_S U k (kc_mul (kc_t 1 r u) E) := ⟨fun _ _ => 0, _, fun _ _ _ => rfl, (fun a b hab => kc_zero X0 E0 a b (by omega)), U1, fun _ _ => (ka_za _).symm⟩
  refine Eq.mp (congrArg (kN_S U k) (funext fun a => funext fun b => ?_)) (S1.ab hU S2 1 1)
  show 1 * kc_mul (kc_t 1 r u) D a b + 1 * kc_mul (kc_t 1 r u) E a b = kc_t 1 (r + i) (u + j) a b
  rw [ka_om, ka_om, ← kw_t_t, kc_t_mul, kc_t_mul, kc_t_mul]
  by_cases c : r ≤ a ∧ u ≤ b
  · rw [if_pos c, if_pos c, if_pos c, h4]
    grind
  · rw [if_neg c, if_neg c, if_neg c, ka_az]
theorem kN_all {K : Type} [Lean.Grind.CommRing K] {U : (Nat → K) → Prop} (hU : kN_U U) {k : Nat} (hk : ∀ i j, i + j = k → kN_S U k (kc_t 1 i j)) : ∀ d, k + d ≤ 24 → ∀ i j, i + j = k + d → kN_S U k (kc_t 1 i j)
  | 0, _, i, j, hij => hk i j hij
  | d + 1, hd, i, j, hij => by
    by_cases c : 1 ≤ i
    · have q := kN_step hU (r := 1) (u := 0) hk (e := k + d) (by omega) (by omega) rfl (i := i - 1) (j := j) (by omega) (kN_all hU hk d (by omega) (i - 1) j (by omega))
      rw [show 1 + (i - 1) = i by omega, Nat.zero_add] at q
      exact q
    · have q := kN_step hU (r := 0) (u := 1) hk (e := k + d) (by omega) (by omega) rfl (i := i) (j := j - 1) (by omega) (kN_all hU hk d (by omega) i (j - 1) (by omega))
      rw [show 1 + (j - 1) = j by omega, Nat.zero_add] at q
      exact q
/-- all of them, when one DEGREE is made of lower ones -/
theorem kN_every {K : Type} [Lean.Grind.CommRing K] {U : (Nat → K) → Prop} (hU : kN_U U) {k : Nat} (k24 : k ≤ 24) (hk : ∀ i j, i + j = k → kN_S U k (kc_t 1 i j)) {P : Nat → Nat → K} (hP : ∀ i j, 25 ≤ i + j → P i j = 0) : kN_S U k P := by
  have q := kN_S.sum hU (k := k) (fun q => P (ndc q).1 (ndc q).2) (fun q => kc_t 1 (ndc q).1 (ndc q).2) (nT 25) (fun q hq => by
    have := ndc_dg hq
    by_cases c : (ndc q).1 + (ndc q).2 < k
    · exact kN_S.low hU (fun a b hab => if_neg (by omega))
    · exact kN_all hU hk ((ndc q).1 + (ndc q).2 - k) (by omega) _ _ (by omega))
  rw [kw_terms2 hP] at q
  exact q
theorem kN_no {K : Type} [Lean.Grind.CommRing K] {U : (Nat → K) → Prop} {k i j : Nat} (k24 : k ≤ 24) (hij : i + j = k) (no : ¬ kN_S U k (kc_t 1 i j)) {D : Nat → Nat → K} (hD : ∀ a b, k ≤ a + b → D a b = 0) : ¬ U (kp_w 325 (fun a b => kc_t 1 i j a b + D a b)) := fun h => no ⟨fun a b => - D a b, fun a b => kc_t 1 i j a b + D a b, fun a b hab => by
    show - D a b = 0
    rw [hD a b hab]
    grind, fun a b hab => by
    show kc_t (1 : K) i j a b + D a b = 0
    rw [hD a b (by omega), show kc_t (1 : K) i j a b = 0 from if_neg (by omega), ka_az], h, fun a b => by grind⟩
theorem kw_un2 {K : Type} [Lean.Grind.CommRing K] {v : Nat → K} (hv : ∀ k, 325 ≤ k → v k = 0) : v = kp_w 325 (fun a b => v (ncol a b)) := funext fun k => by
  unfold kp_w kvec
  by_cases c : k < 325
  · rw [if_pos c]
    show v k = v (ncol (ndc k).1 (ndc k).2)
    rw [ncol_ndc]
  · rw [if_neg c, hv k (by omega)]
theorem kl_cl_supp {K : Type} [Lean.Grind.CommRing K] (N : Nat) : kl_cl (fun v : Nat → K => ∀ k, N ≤ k → v k = 0) := fun c F m h k hk => ka_s_zero _ (fun t ht => by rw [h t ht k hk, ka_mz])
theorem kp_C_cl {K : Type} [Lean.Grind.CommRing K] {G : (Nat → K) → Prop} (h : kp_C G) : kl_cl G := fun c F m hF => kp_sums h c F m (fun t ht => Or.inr (hF t ht))
theorem kl_ln_id {K I : Type} [Lean.Grind.CommRing K] : kl_ln (fun v : I → K => v) := fun _ _ _ => rfl
/-- where lower ones are enough -/
theorem kN_enough {K : Type} [Lean.Grind.CommRing K] (hK : ka_F K) {U : (Nat → K) → Prop} (hU : kN_U U) {N1 N2 near r1 r2 : Nat} {f g : Nat → Nat → K} (n25 : near ≤ 325) (dU : kl_dim U (325 - near)) (hI : ∀ v, kp_G 325 N1 N2 f g v → U v) (d1 : kl_dim (kp_G 325 N1 N2 f g) r1) (d2 : kl_dim (kG8 N1 N2 f g) r2) (hS : ∀ P : Nat → Nat → K, (∀ i j, 25 ≤ i + j → P i j = 0) → kN_S U 9 P) : near + r1 ≤ r2 := by
  have n9 : nT 9 = 45 := nT_9.1
  have low : ∀ {D : Nat → Nat → K}, (∀ i j, 9 ≤ i + j → D i j = 0) → ∀ k, 45 ≤ k → kp_w 325 D k = 0 := fun {D} hD k hk => by
    unfold kp_w kvec
    by_cases c : k < 325
    · rw [if_pos c]
      refine hD _ _ (Nat.le_of_not_lt fun q => ?_)
      have := ncol_lt q
      rw [ncol_ndc, n9] at this
      omega
    · rw [if_neg c]
  have up : ∀ {v : Nat → K}, (∀ k, 45 ≤ k → v k = 0) → ∀ i j, 9 ≤ i + j → v (ncol i j) = 0 := fun {v} hv i j hij => hv _ (by
    have := ncol_ge hij
    omega)
  obtain ⟨n0, e0, h0⟩ := kl_pre hK (U := fun v : Nat → K => ∀ k, 45 ≤ k → v k = 0) (V := U) (Y := fun v : Nat → K => ∀ k, 325 ≤ k → v k = 0) (fun v => v) kl_ln_id (kl_cl_supp 45) hU.1 (kl_dim_e 45) dU (kl_dim_e 325) (fun y => ⟨fun hy => by
    obtain ⟨D, E, h1, h2, h3, h4⟩ := hS (fun a b => y (ncol a b)) (fun i j hij => hy _ (by
      have := ncol_ge hij
      rw [nT_9.2.2.2.2] at this
      exact this))
    refine ⟨kp_w 325 D, kp_w 325 E, low h1, h3, ?_⟩
    rw [kw_un2 hy, show (fun a b => y (ncol a b)) = fun a b => 1 * D a b + 1 * E a b from funext fun a => funext fun b => by
      rw [ka_om, ka_om]
      exact h4 a b, kp_wab]
    exact funext fun k => by rw [ka_om, ka_om], fun ⟨u, v, hu, hv, e⟩ k hk => by
    rw [e]
    show u k + v k = 0
    rw [hu k (by omega), hU.2.1 v hv k hk, ka_az]⟩)
  obtain ⟨n1, e1, h1⟩ := kl_pre hK (U := fun v : Nat → K => ∀ k, 45 ≤ k → v k = 0) (V := kp_G 325 N1 N2 f g) (Y := kG8 N1 N2 f g) (fun v => v) kl_ln_id (kl_cl_supp 45) (kp_C_cl (kp_G_C _ _ _ _ _)) (kl_dim_e 45) d1 d2 (fun y => ⟨fun ⟨u, P, hu, hP, e⟩ => ⟨kp_w 325 P, u, low (fun i j hij => hP i j (by omega)), hu, by
    rw [e]
    exact funext fun k => by
      show u k + kp_w 325 P k = kp_w 325 P k + u k
      grind⟩, fun ⟨u, v, hu, hv, e⟩ => ⟨v, fun a b => u (ncol a b), hv, fun i j hij => up hu i j (by omega), by
    rw [e]
    refine funext fun k => ?_
    show u k + v k = v k + kp_w 325 (fun a b => u (ncol a b)) k
    rw [← kw_un2 (fun k hk => hu k (by omega))]
    grind⟩⟩)
  have le := kl_dim_le hK h0 h1 (fun v ⟨a, b⟩ => ⟨a, hI v b⟩)
  omega
end ZWj
