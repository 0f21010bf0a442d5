section ZWb
theorem kl_e_sh {K : Type} [Lean.Grind.CommRing K] (a : Nat → K) (off N k : Nat) : ka_s (fun t => a t * kl_e (off + t) k) N = if off ≤ k ∧ k < off + N then a (k - off) else 0 := by
  by_cases q : off ≤ k ∧ k < off + N
  · rw [if_pos q, ka_s_one (k := k - off) N (by omega) (fun t ht hne => by
      show a t * (if k = off + t then (1 : K) else 0) = 0
      rw [if_neg (by omega), ka_mz])]
    show a (k - off) * (if k = off + (k - off) then (1 : K) else 0) = _
    rw [if_pos (by omega)]
    exact Lean.Grind.Semiring.mul_one _
  · rw [if_neg q]
    exact ka_s_zero _ (fun t ht => by
      show a t * (if k = off + t then (1 : K) else 0) = 0
      rw [if_neg (by omega), ka_mz])
theorem kl_dim_sh {K : Type} [Lean.Grind.CommRing K] (off N : Nat) : kl_dim (fun v : Nat → K => (∀ k, k < off → v k = 0) ∧ ∀ k, off + N ≤ k → v k = 0) N := by
  refine ⟨fun t => kl_e (off + t), fun a ha t ht => ?_, fun t ht => ⟨fun k hk => if_neg (by omega), fun k hk => if_neg (by omega)⟩, fun v hv => ⟨fun t => v (off + t), fun k => ?_⟩⟩
  · have := ha (off + t)
    rw [kl_e_sh, if_pos (by omega), show off + t - off = t by omega] at this
    exact this
  · rw [kl_e_sh]
    by_cases q : off ≤ k ∧ k < off + N
    · rw [if_pos q, show off + (k - off) = k by omega]
    · rw [if_neg q]
      by_cases c : k < off
      · exact hv.1 k c
      · exact hv.2 k (by omega)
/-- times the second letter -/
def kw_y {K : Type} [Lean.Grind.CommRing K] (v : Nat → K) : Nat → K := fun k => if k < 153 ∧ 1 ≤ (ndc k).2 then v (ncol (ndc k).1 ((ndc k).2 - 1)) else 0
theorem kw_y_at {K : Type} [Lean.Grind.CommRing K] (X : Nat → Nat → K) : kw_y (kp_w 153 X) = kp_w 153 (kc_mul (kc_t 1 0 1) X) := funext fun k => by
  show (if k < 153 ∧ 1 ≤ (ndc k).2 then kp_w 153 X (ncol (ndc k).1 ((ndc k).2 - 1)) else 0) = if k < 153 then kc_mul (kc_t 1 0 1) X (ndc k).1 (ndc k).2 else 0
  by_cases q : k < 153
  · rw [if_pos q, kc_t_mul]
    have dg := ndc_dg (k := k) (d := 17) (by rw [kz_T17.1]; exact q)
    by_cases c : 1 ≤ (ndc k).2
    · rw [if_pos ⟨q, c⟩, if_pos ⟨Nat.zero_le _, c⟩, ka_om]
      have lt := ncol_lt (show (ndc k).1 + ((ndc k).2 - 1) < 17 by omega)
      rw [kz_T17.1] at lt
      unfold kp_w kvec
      rw [if_pos lt, ndc_ncol]
      rfl
    · rw [if_neg (fun z => c z.2), if_neg (fun z => c z.2)]
  · rw [if_neg q, if_neg (fun z => q z.1)]
theorem kw_y_lin {K : Type} [Lean.Grind.CommRing K] (c : Nat → K) (F : Nat → Nat → K) (m : Nat) : kw_y (fun i => ka_s (fun t => c t * F t i) m) = fun j => ka_s (fun t => c t * kw_y (F t) j) m := funext fun k => by
  unfold kw_y
  by_cases q : k < 153 ∧ 1 ≤ (ndc k).2
  · rw [if_pos q]
    exact ka_s_congr _ (fun t _ => by rw [if_pos q])
  · rw [if_neg q]
    exact (ka_s_zero _ (fun t _ => by rw [if_neg q, ka_mz])).symm
theorem kw_y_sub {K : Type} [Lean.Grind.CommRing K] (v w : Nat → K) : kw_y (fun i => v i - w i) = fun j => kw_y v j - kw_y w j := funext fun k => by
  unfold kw_y
  by_cases q : k < 153 ∧ 1 ≤ (ndc k).2
  · rw [if_pos q, if_pos q, if_pos q]
  · rw [if_neg q, if_neg q, if_neg q, ka_xx]
/-- what is pure in the first letter -/
def kw_x {K : Type} [Lean.Grind.CommRing K] (v : Nat → K) : Nat → K := fun i => if i < 17 then v (ncol i 0) else 0
theorem kw_x_at {K : Type} [Lean.Grind.CommRing K] (X : Nat → Nat → K) (i : Nat) : kw_x (kp_w 153 X) i = if i < 17 then X i 0 else 0 := by
  unfold kw_x
  by_cases q : i < 17
  · rw [if_pos q, if_pos q]
    have lt := ncol_lt (show i + 0 < 17 by omega)
    rw [kz_T17.1] at lt
    unfold kp_w kvec
    rw [if_pos lt, ndc_ncol]
  · rw [if_neg q, if_neg q]
theorem kw_x_lin {K : Type} [Lean.Grind.CommRing K] (c : Nat → K) (F : Nat → Nat → K) (m : Nat) : kw_x (fun i => ka_s (fun t => c t * F t i) m) = fun j => ka_s (fun t => c t * kw_x (F t) j) m := funext fun k => by
  unfold kw_x
  by_cases q : k < 17
  · rw [if_pos q]
    exact ka_s_congr _ (fun t _ => by rw [if_pos q])
  · rw [if_neg q]
    exact (ka_s_zero _ (fun t _ => by rw [if_neg q, ka_mz])).symm
theorem kw_x_sub {K : Type} [Lean.Grind.CommRing K] (v w : Nat → K) : kw_x (fun i => v i - w i) = fun j => kw_x v j - kw_x w j := funext fun k => by
  unfold kw_x
  by_cases q : k < 17
  · rw [if_pos q, if_pos q, if_pos q]
  · rw [if_neg q, if_neg q, if_neg q, ka_xx]
theorem kz_Vc {K : Type} [Lean.Grind.CommRing K] {F G : Nat → Nat → K} (c : Nat → K) (X : Nat → Nat → K) (m : Nat) (h : ∀ t, t < m → kz_V F G (X t)) : kz_V F G (fun i => ka_s (fun t => c t * X t i) m) := kz_V.sp (x := X) (n := m) h ⟨c, fun _ => rfl⟩
theorem kw_r4 {K : Type} [Lean.Grind.CommRing K] (a b : K) : a - b = 0 + 1 * a + (-1) * b := by grind
theorem kz_Vs {K : Type} [Lean.Grind.CommRing K] {F G : Nat → Nat → K} (v w : Nat → K) (hv : kz_V F G v) (hw : kz_V F G w) : kz_V F G (fun i => v i - w i) := kz_V.sp (x := fun t => if t = 0 then v else w) (n := 2) (fun t ht => by
  show kz_V F G (if t = 0 then v else w)
  split
  · exact hv
  · exact hw) ⟨fun t => if t = 0 then 1 else -1, fun i => kw_r4 _ _⟩
/-- pure in the first letter, a product -/
theorem kw_pure {K : Type} [Lean.Grind.CommRing K] (B G : Nat → Nat → K) (i : Nat) : kc_mul B G i 0 = ka_s (fun a => B a 0 * G (i - a) 0) (i + 1) := by
  unfold kc_mul
  exact ka_s_congr _ (fun a _ => by
    show 0 + B a 0 * G (i - a) (0 - 0) = _
    rw [ka_za])
theorem kw_yF {K : Type} [Lean.Grind.CommRing K] (A F1 : Nat → Nat → K) (i : Nat) : kc_mul A (kc_mul (kc_t 1 0 1) F1) i 0 = 0 := by
  rw [← kc_mul_assoc, kc_mul_comm A, kc_mul_assoc, kc_t_mul, if_neg (by omega)]
theorem kl_r_neg {K : Type} [Lean.Grind.CommRing K] (a : K) : a + -a = 0 := by grind
/-- a SPLIT: as many more as the other's least pure TERM says -/
theorem kw_split {K : Type} [Lean.Grind.CommRing K] (hK : ka_F K) {F1 G : Nat → Nat → K} {n r s : Nat} (hs : s ≤ 16) (g0 : ∀ i, i < s → G i 0 = 0) (g1 : G s 0 ≠ 0) (hn : 137 ≤ n) (h : kz_rk (kz_V (kc_mul (kc_t 1 0 1) F1) G) n) (hr : kl_dim (kz_V (kc_mul (kc_t 1 0 1) F1) G) r) : kl_dim (kz_V F1 G) (r + s) := by
  obtain ⟨F, hF⟩ : ∃ F, F = kc_mul (kc_t 1 0 1) F1 := ⟨_, rfl⟩
  rw [← hF] at h hr
  have sub : ∀ v, kz_V F G v → kz_V F1 G v := fun v ⟨A, B, e⟩ => ⟨kc_mul A (kc_t 1 0 1), B, by
    rw [e, hF]
    refine kz_w (fun i j _ => ?_)
    show kc_mul A (kc_mul (kc_t 1 0 1) F1) i j + kc_mul B G i j = kc_mul (kc_mul A (kc_t 1 0 1)) F1 i j + kc_mul B G i j
    rw [kc_mul_assoc]⟩
  have v0 : ∀ {X Y : Nat → Nat → K} v, kz_V X Y v → ∀ k, 153 ≤ k → v k = 0 := fun v ⟨A, B, e⟩ k hk => by rw [e, kz_w0 hk]
  obtain ⟨r1, hr1⟩ := kl_dim_ex hK (V := kz_V F1 G) (W := 153) (fun v hv k hk => v0 v hv k hk)
  obtain ⟨d, hd⟩ := kl_dim_ex hK (V := fun w => ∃ v, kz_V F1 G v ∧ kw_y v = w) (W := 153) (fun v ⟨u, _, e⟩ k hk => by
    rw [← e]
    exact if_neg (by omega))
  have a1 : d + 17 = r1 := by
    refine kl_rn hK (U := kz_V F1 G) (W := fun w => ∃ v, kz_V F1 G v ∧ kw_y v = w) (V := fun v => (∀ k, k < 136 → v k = 0) ∧ ∀ k, 136 + 17 ≤ k → v k = 0) kw_y kw_y_lin hr1 kz_Vc kz_Vs kw_y_sub (kl_dim_sh 136 17) (fun v => ⟨fun hv => ⟨?_, fun j => ?_⟩, fun hv => ⟨fun k hk => ?_, fun k hk => v0 v hv.1 k (by omega)⟩⟩) hd (fun w => Iff.rfl)
    · have ev : v = kp_w 153 (fun a b => v (ncol a b)) := funext fun k => by
        unfold kp_w kvec
        by_cases q : k < 153
        · rw [if_pos q]
          show v k = v (ncol (ndc k).1 (ndc k).2)
          rw [ncol_ndc]
        · rw [if_neg q, hv.2 k (by omega)]
      rw [ev]
      refine sub _ (kw_Vz.2 ?_)
      refine (kw_V.sum (N := 17) (F := F) (G := G) (fun q => v (ncol (ndc q).1 (ndc q).2)) (fun q => kc_t 1 (ndc q).1 (ndc q).2) (nT 17) (fun q hq => ?_)).congr (fun a b hab => (kw_terms 17 (fun a b => v (ncol a b)) hab).symm)
      by_cases c : 16 ≤ (ndc q).1 + (ndc q).2
      · exact Or.inr (kw_16 hK hn h 17 c)
      · have lt := ncol_lt (show (ndc q).1 + (ndc q).2 < 16 by omega)
        rw [kz_T17.2.1] at lt
        exact Or.inl (hv.1 _ lt)
    · show (if j < 153 ∧ 1 ≤ (ndc j).2 then v (ncol (ndc j).1 ((ndc j).2 - 1)) else 0) = 0
      by_cases q : j < 153 ∧ 1 ≤ (ndc j).2
      · rw [if_pos q]
        have dg := ndc_dg (k := j) (d := 17) (by rw [kz_T17.1]; exact q.1)
        have lt := ncol_lt (show (ndc j).1 + ((ndc j).2 - 1) < 16 by omega)
        rw [kz_T17.2.1] at lt
        exact hv.1 _ lt
      · rw [if_neg q]
    · have dg := ndc_dg (k := k) (d := 16) (by rw [kz_T17.2.1]; exact hk)
      have lt := ncol_lt (show (ndc k).1 + ((ndc k).2 + 1) < 17 by omega)
      rw [kz_T17.1] at lt
      have e := hv.2 (ncol (ndc k).1 ((ndc k).2 + 1))
      unfold kw_y at e
      rw [ndc_ncol] at e
      have e2 : (if ncol (ndc k).1 ((ndc k).2 + 1) < 153 ∧ 1 ≤ (ndc k).2 + 1 then v (ncol (ndc k).1 ((ndc k).2 + 1 - 1)) else 0) = 0 := e
      rw [if_pos ⟨lt, by omega⟩, show (ndc k).2 + 1 - 1 = (ndc k).2 by omega, ncol_ndc] at e2
      exact e2
  have yv : ∀ t i : Nat, kw_x (kp_w 153 (kc_mul (kc_t 1 t 0) G)) i = if i < 17 then (if t ≤ i then G (i - t) 0 else 0) else 0 := fun t i => by
    rw [kw_x_at, kc_t_mul]
    by_cases q : i < 17
    · rw [if_pos q, if_pos q]
      by_cases c : t ≤ i
      · rw [if_pos ⟨c, Nat.le_refl _⟩, if_pos c, ka_om]
      · rw [if_neg (fun z => c z.1), if_neg c]
    · rw [if_neg q, if_neg q]
  have dom := hK.dom
  have h2 : kl_dim (fun w => ∃ v, kz_V F G v ∧ kw_x v = w) (17 - s) := by
    refine ⟨fun t => kw_x (kp_w 153 (kc_mul (kc_t 1 t 0) G)), fun a ha t => ?_, fun t ht => ⟨_, ⟨fun _ _ => 0, kc_t 1 t 0, kz_w (fun i j _ => by
      show _ = kc_mul (fun _ _ => 0) F i j + _
      rw [kc_zmul, ka_za])⟩, rfl⟩, fun w hw => ?_⟩
    · induction t using Nat.strongRecOn with
      | _ t ih =>
        intro ht
        have e := ha (t + s)
        rw [ka_s_one (k := t) (17 - s) ht (fun l hl hne => by
          by_cases c : l < t
          · rw [ih l c hl, ka_zm]
          · show a l * kw_x (kp_w 153 (kc_mul (kc_t 1 l 0) G)) (t + s) = 0
            rw [yv, if_pos (by omega)]
            by_cases c2 : l ≤ t + s
            · rw [if_pos c2, g0 _ (by omega), ka_mz]
            · rw [if_neg c2, ka_mz])] at e
        have e2 : a t * kw_x (kp_w 153 (kc_mul (kc_t 1 t 0) G)) (t + s) = 0 := e
        rw [yv, if_pos (by omega), if_pos (by omega), show t + s - t = s by omega] at e2
        rcases dom _ _ e2 with z | z
        · exact z
        · exact absurd z g1
    · obtain ⟨v, ⟨A, B, e⟩, ew⟩ := hw
      refine ⟨fun t => B t 0, fun i => ?_⟩
      rw [← ew, e, kw_x_at]
      show (if i < 17 then kc_mul A F i 0 + kc_mul B G i 0 else 0) = ka_s (fun t => B t 0 * kw_x (kp_w 153 (kc_mul (kc_t 1 t 0) G)) i) (17 - s)
      by_cases q : i < 17
      · rw [if_pos q, hF, kw_yF, ka_za, kw_pure]
        have e1 : ka_s (fun a => B a 0 * G (i - a) 0) (i + 1) = ka_s (fun t => if t ≤ i then B t 0 * G (i - t) 0 else 0) (i + 1) := ka_s_congr _ (fun t ht => (if_pos (by omega)).symm)
        have e2 : ka_s (fun t => B t 0 * kw_x (kp_w 153 (kc_mul (kc_t 1 t 0) G)) i) (17 - s) = ka_s (fun t => if t ≤ i then B t 0 * G (i - t) 0 else 0) (17 - s) := ka_s_congr _ (fun t ht => by
          rw [yv, if_pos q]
          by_cases c : t ≤ i
          · rw [if_pos c, if_pos c]
          · rw [if_neg c, if_neg c, ka_mz])
        rw [e1, e2, ← ka_s_ext (m := i + 1) 17 (by omega) (fun t h1 h2 => if_neg (by omega)), ka_s_ext (m := 17 - s) 17 (by omega) (fun t h1 h2 => by
          by_cases c : t ≤ i
          · rw [if_pos c, g0 _ (by omega), ka_mz]
          · rw [if_neg c])]
      · rw [if_neg q]
        exact (ka_s_zero _ (fun t _ => by rw [yv, if_neg q, ka_mz])).symm
  have a2 : (17 - s) + d = r := by
    refine kl_rn hK (U := kz_V F G) (W := fun w => ∃ v, kz_V F G v ∧ kw_x v = w) (V := fun w => ∃ v, kz_V F1 G v ∧ kw_y v = w) kw_x kw_x_lin hr kz_Vc kz_Vs kw_x_sub hd (fun w => ⟨fun ⟨v, ⟨A, B, e⟩, ew⟩ => ⟨?_, fun j => ?_⟩, fun ⟨⟨A, B, e⟩, hx⟩ => ?_⟩) h2 (fun w => Iff.rfl)
    · rw [← ew, e, kw_y_at, hF]
      refine ⟨A, kc_mul (kc_t 1 0 1) B, kz_w (fun i j _ => ?_)⟩
      rw [kc_mul_comm (kc_t 1 0 1) (fun i j => _), kc_mul_add]
      show kc_mul (kc_mul A F1) (kc_t 1 0 1) i j + kc_mul (kc_mul B G) (kc_t 1 0 1) i j = kc_mul A (kc_mul (kc_t 1 0 1) F1) i j + kc_mul (kc_mul (kc_t 1 0 1) B) G i j
      rw [kc_mul_assoc, kc_mul_comm F1, kc_mul_comm (kc_mul B G), kc_mul_assoc]
    · rw [← ew, e, kw_y_at, kw_x_at]
      by_cases q : j < 17
      · rw [if_pos q, kc_t_mul, if_neg (by omega)]
      · rw [if_neg q]
    · obtain ⟨P, hP⟩ : ∃ P : Nat → Nat → K, P = fun i j => kc_mul A F i j + kc_mul B G i j := ⟨_, rfl⟩
      obtain ⟨Q, hQ⟩ : ∃ Q : Nat → Nat → K, Q = fun i j => if i + j < 17 then 0 else - P i j := ⟨_, rfl⟩
      have p0 : ∀ i, i < 17 → P i 0 = 0 := fun i hi => by
        have q := hx i
        rw [e, kw_x_at, if_pos hi] at q
        rw [hP]
        exact q
      obtain ⟨A2, B2, e2⟩ : kw_V 40 F G Q := (kw_V.sum (N := 40) (F := F) (G := G) (fun q => Q (ndc q).1 (ndc q).2) (fun q => kc_t 1 (ndc q).1 (ndc q).2) (nT 40) (fun q hq => by
        by_cases c : 16 ≤ (ndc q).1 + (ndc q).2
        · exact Or.inr (kw_16 hK hn h 40 c)
        · refine Or.inl ?_
          rw [hQ]
          exact if_pos (by omega))).congr (fun a b hab => (kw_terms 40 Q hab).symm)
      obtain ⟨A3, hA3⟩ : ∃ A3 : Nat → Nat → K, A3 = fun i j => A i j + 1 * A2 i j := ⟨_, rfl⟩
      obtain ⟨B3, hB3⟩ : ∃ B3 : Nat → Nat → K, B3 = fun i j => B i j + 1 * B2 i j := ⟨_, rfl⟩
      have e3 : ∀ i j, i + j < 40 → kc_mul A3 F i j + kc_mul B3 G i j = P i j + 1 * Q i j := fun i j hij => by
        rw [e2 i j hij, hA3, hB3, kc_mul_ac, kc_mul_ac, hP]
        exact (kw_r1 _ _ _ _ _).symm
      have b0 : ∀ a, a + s < 40 → B3 a 0 = 0 := fun a => by
        induction a using Nat.strongRecOn with
        | _ a ih =>
          intro ha
          have q := e3 (a + s) 0 (by omega)
          rw [hF, kw_yF, ka_za, kw_pure, ka_s_one (k := a) (a + s + 1) (by omega) (fun l hl hne => by
            by_cases c : l < a
            · rw [ih l c (by omega), ka_zm]
            · rw [g0 _ (by omega), ka_mz]), show a + s - a = s by omega] at q
          have q0 : P (a + s) 0 + 1 * Q (a + s) 0 = 0 := by
            rw [hQ]
            show P (a + s) 0 + 1 * (if a + s + 0 < 17 then 0 else - P (a + s) 0) = 0
            by_cases c : a + s + 0 < 17
            · rw [if_pos c, ka_mz, ka_az]
              exact p0 _ (by omega)
            · rw [if_neg c, ka_om]
              exact kl_r_neg _
          rw [q0] at q
          rcases dom _ _ q with z | z
          · exact z
          · exact absurd z g1
      obtain ⟨B4, hB4⟩ : ∃ B4 : Nat → Nat → K, B4 = fun i j => B3 i (j + 1) := ⟨_, rfl⟩
      have b4 : ∀ i j, i + j < 17 → B3 i j = kc_mul (kc_t 1 0 1) B4 i j := fun i j hij => by
        rw [kc_t_mul]
        by_cases c : 1 ≤ j
        · rw [if_pos ⟨Nat.zero_le _, c⟩, ka_om, hB4]
          show _ = B3 (i - 0) (j - 1 + 1)
          rw [show j - 1 + 1 = j by omega]
          rfl
        · rw [if_neg (fun z => c z.2), show j = 0 by omega]
          exact b0 i (by omega)
      refine ⟨kp_w 153 (fun i j => kc_mul A3 F1 i j + kc_mul B4 G i j), ⟨A3, B4, rfl⟩, ?_⟩
      rw [kw_y_at, e]
      refine kz_w (fun i j hij => ?_)
      have q := e3 i j (by omega)
      have q0 : Q i j = 0 := by rw [hQ]; exact if_pos hij
      rw [q0, ka_mz, ka_az, hP] at q
      show _ = kc_mul A F i j + kc_mul B G i j
      refine Eq.trans ?_ q
      rw [kc_mul_comm (kc_t 1 0 1) (fun i j => _), kc_mul_add]
      show kc_mul (kc_mul A3 F1) (kc_t 1 0 1) i j + kc_mul (kc_mul B4 G) (kc_t 1 0 1) i j = kc_mul A3 F i j + kc_mul B3 G i j
      rw [kz_lo (d := 17) (F := B3) (G := G) (G' := G) b4 (fun _ _ _ => rfl) i j hij, hF, kc_mul_assoc A3, kc_mul_comm F1, kc_mul_comm (kc_mul B4 G), kc_mul_assoc]
  have er : r1 = r + s := by omega
  rw [← er]
  exact hr1
end ZWb
