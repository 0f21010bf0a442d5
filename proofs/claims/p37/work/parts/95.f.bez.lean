section ZHf
theorem kz_rk_or {K I : Type} [Lean.Grind.CommRing K] (hK : ka_F K) (V : (I → K) → Prop) : ∀ n : Nat, (∃ x : Nat → I → K, kl_fr x n ∧ ∀ t, t < n → V (x t)) ∨ ∃ r, r < n ∧ ∃ y : Nat → I → K, kl_fr y r ∧ (∀ t, t < r → V (y t)) ∧ ∀ v, V v → kl_sp y r v
  | 0 => Or.inl ⟨fun _ _ => 0, fun a ha t ht => absurd ht (Nat.not_lt_zero _), fun t ht => absurd ht (Nat.not_lt_zero _)⟩
  | n + 1 => by
    rcases kz_rk_or hK V n with ⟨x, x1, x2⟩ | ⟨r, hr, y, y1⟩
    · by_cases al : ∀ v, V v → kl_sp x n v
      · exact Or.inr ⟨n, by omega, x, x1, x2, al⟩
      · obtain ⟨v, hv⟩ := Classical.not_forall.1 al
        have hv1 : V v := Classical.byContradiction fun z => hv (fun y => absurd y z)
        have hv2 : ¬ kl_sp x n v := fun z => hv (fun _ => z)
        refine Or.inl ⟨fun t => if t < n then x t else v, kl_fr_s hK (fun a ha t ht => x1 a (fun i => ?_) t ht) (fun z => hv2 ?_), fun t ht => ?_⟩
        · rw [← ha i]
          exact ka_s_congr _ (fun t ht => by rw [if_pos ht])
        · have z' : kl_sp (fun t => if t < n then x t else v) n (if n < n then x n else v) := z
          rw [if_neg (Nat.lt_irrefl _)] at z'
          obtain ⟨a, ha⟩ := z'
          exact ⟨a, fun i => by
            rw [ha i]
            refine ka_s_congr _ (fun t ht => ?_)
            show a t * (if t < n then x t else v) i = a t * x t i
            rw [if_pos ht]⟩
        · show V (if t < n then x t else v)
          by_cases q : t < n
          · rw [if_pos q]; exact x2 t q
          · rw [if_neg q]; exact hv1
    · exact Or.inr ⟨r, by omega, y, y1⟩
theorem kl_dim_ex {K : Type} [Lean.Grind.CommRing K] (hK : ka_F K) {V : (Nat → K) → Prop} {W : Nat} (h : ∀ v, V v → ∀ k, W ≤ k → v k = 0) : ∃ c, kl_dim V c := by
  rcases kz_rk_or hK V (W + 1) with ⟨x, x1, x2⟩ | ⟨r, _, y, y1, y2, y3⟩
  · have := kl_le hK (y := fun t => kl_e t) (n := W) x1 (fun t ht => ⟨x t, fun k => by
      rw [kl_e_sum]
      by_cases q : k < W
      · rw [if_pos q]
      · rw [if_neg q, h _ (x2 t ht) k (by omega)]⟩)
    omega
  · exact ⟨r, y, y1, y2, y3⟩
theorem kh_16 : ∀ a, a < 5 → ∀ b, b < 5 → 309 + nT (25 - a - b) ≤ nT (25 - a) + nT (25 - b) := by decide
/-- how often two CURVES meet at one POINT is bounded -/
theorem kh_bez {K : Type} [Lean.Grind.CommRing K] (hK : ka_F K) {Λ : Nat → (Nat → Nat → K) → Nat → Nat → K} (hΛ : kh_ok Λ) {f g u w hh : Nat → Nat → K} (hU : kUW f g u w hh) {e nu nw : Nat} (h1 : ∀ i j, e < i + j → hh i j = 0) (u1 : ∀ i j, nu < i + j → u i j = 0) (u2 : ∃ i j, i + j = nu ∧ u i j ≠ 0) (w1 : ∀ i j, nw < i + j → w i j = 0) (lu : e + nu ≤ 4) (lw : e + nw ≤ 4) (h0 : Λ e hh 0 0 ≠ 0) : kz_rk (kz_V (Λ (e + nw) f) (Λ (e + nu) g)) 137 := by
  obtain ⟨pu, pw, ph, u0, w0, ef, eg, al⟩ := hU
  obtain ⟨L1, L2, L3, L4⟩ := hΛ
  have pl1 : kc_pl (kc_t (1 : K) 0 0) := ⟨1, fun i j hij => if_neg (by omega)⟩
  have hU2 : kUW w u u w (kc_t 1 0 0) := ⟨pu, pw, pl1, u0, w0, (kc_1_mul w).symm, (kc_1_mul u).symm, fun u' w' p1 p2 e1 => al u' w' p1 p2 (by
    rw [ef, eg, ← kc_mul_assoc, ← kc_mul_assoc, kc_mul_comm u' hh, kc_mul_comm w' hh, kc_mul_assoc, kc_mul_assoc, e1])⟩
  obtain ⟨c, hc⟩ := kl_dim_ex hK (V := kp_G 325 (nT (24 + 1 - nw)) (nT (24 + 1 - nu)) w u) (W := 325) (fun v ⟨x, _, hx⟩ k hk => by
    rw [← hx]
    exact if_neg (by omega))
  have rk := kp_rank hK hU2 (n := nw) (m := nu) (e := 0) (nu := nu) (nw := nw) (dd := 24) rfl rfl w1 u1 u1 u2 w1 kz_T17.2.2.symm hc
  have c309 : 309 ≤ c := by
    have := kh_16 nw (by omega) nu (by omega)
    rw [show 24 + 1 + 0 - nw - nu = 25 - nw - nu by omega, show 24 + 1 - nw = 25 - nw by omega, show 24 + 1 - nu = 25 - nu by omega] at rk
    omega
  obtain ⟨x, x1, x2, _⟩ := hc
  have hx : ∀ t, ∃ y : Nat → K, t < c → kp_T 325 (nT (24 + 1 - nw)) (nT (24 + 1 - nu)) w u y = x t := fun t => by
    by_cases q : t < c
    · obtain ⟨y, _, hy⟩ := x2 t q
      exact ⟨y, fun _ => hy⟩
    · exact ⟨fun _ => 0, fun z => absurd z q⟩
  obtain ⟨A, hA⟩ : ∃ A : Nat → Nat → Nat → K, A = fun t => kUn (Classical.choose (hx t)) 0 (nT (24 + 1 - nw)) := ⟨_, rfl⟩
  obtain ⟨B, hB⟩ : ∃ B : Nat → Nat → Nat → K, B = fun t => kUn (Classical.choose (hx t)) (nT (24 + 1 - nw)) (nT (24 + 1 - nu)) := ⟨_, rfl⟩
  have kd : ∀ {x : Nat → K} {off : Nat} (d d' : Nat), d' = d + 1 → ∀ i j, d < i + j → kUn x off (nT d') i j = 0 := fun d d' e i j hij => by
    subst e
    exact kUn_dg i j hij
  have A1 : ∀ t i j, 24 - nw < i + j → A t i j = 0 := fun t i j hij => by
    rw [hA]
    exact kd (24 - nw) (24 + 1 - nw) (by omega) i j hij
  have B1 : ∀ t i j, 24 - nu < i + j → B t i j = 0 := fun t i j hij => by
    rw [hB]
    exact kd (24 - nu) (24 + 1 - nu) (by omega) i j hij
  obtain ⟨P, hP⟩ : ∃ P : Nat → Nat → Nat → K, P = fun t i j => kc_mul (A t) w i j + kc_mul (B t) u i j := ⟨_, rfl⟩
  have xP : ∀ t, t < c → x t = kp_w 325 (P t) := fun t ht => by
    rw [← Classical.choose_spec (hx t) ht, hP, hA, hB]
    rfl
  have Pd : ∀ t i j, 24 < i + j → P t i j = 0 := fun t i j hij => by
    rw [hP]
    show kc_mul (A t) w i j + kc_mul (B t) u i j = 0
    rw [kc_zero (n := 24 - nw) (m := nw) (A1 t) w1 i j (by omega), kc_zero (n := 24 - nu) (m := nu) (B1 t) u1 i j (by omega), ka_az]
  have ad : ∀ (D : Nat) (X Y : Nat → Nat → K), Λ D (fun i j => X i j + Y i j) = fun i j => Λ D X i j + Λ D Y i j := fun D X Y => by
    have q := L3 D (fun _ => 1) (fun t => if t = 0 then X else Y) 2
    have q1 : (fun i j => ka_s (fun t => (1 : K) * (if t = 0 then X else Y) i j) 2) = fun i j => X i j + Y i j := funext fun i => funext fun j => by
      show (0 + 1 * X i j) + 1 * Y i j = X i j + Y i j
      rw [ka_za, ka_om, ka_om]
    rw [q1] at q
    rw [q]
    refine funext fun i => funext fun j => ?_
    show (0 + 1 * Λ D X i j) + 1 * Λ D Y i j = _
    rw [ka_za, ka_om, ka_om]
  have LP : ∀ t, Λ 24 (P t) = fun i j => kc_mul (Λ (24 - nw) (A t)) (Λ nw w) i j + kc_mul (Λ (24 - nu) (B t)) (Λ nu u) i j := fun t => by
    rw [hP]
    show Λ 24 (fun i j => kc_mul (A t) w i j + kc_mul (B t) u i j) = _
    have m1 := L2 (24 - nw) nw (A t) w (by omega) (A1 t) w1
    rw [show 24 - nw + nw = 24 by omega] at m1
    have m2 := L2 (24 - nu) nu (B t) u (by omega) (B1 t) u1
    rw [show 24 - nu + nu = 24 by omega] at m2
    rw [ad, m1, m2]
  have zf : kl_fr (fun t => kp_w 325 (Λ 24 (P t))) c := fun a ha t ht => by
    refine x1 a (fun k => ?_) t ht
    have s1 : ∀ (X : Nat → Nat → Nat → K) k, ka_s (fun t => a t * kp_w 325 (X t) k) c = kp_w 325 (fun i j => ka_s (fun t => a t * X t i j) c) k := fun X k => by
      unfold kp_w kvec
      by_cases q : k < 325
      · rw [if_pos q]
        exact ka_s_congr _ (fun t _ => by rw [if_pos q])
      · rw [if_neg q]
        exact ka_s_zero _ (fun t _ => by rw [if_neg q, ka_mz])
    have s2 : ∀ i j, Λ 24 (fun i j => ka_s (fun t => a t * P t i j) c) i j = 0 := fun i j => by
      by_cases q : i + j < 25
      · have lt := ncol_lt q
        rw [kz_T17.2.2] at lt
        have hk := ha (ncol i j)
        rw [s1] at hk
        unfold kp_w kvec at hk
        rw [if_pos lt, ndc_ncol] at hk
        rw [L3]
        exact hk
      · exact L1 24 _ (fun i j hij => ka_s_zero _ (fun t _ => by rw [Pd t i j hij, ka_mz])) i j (by omega)
    have s3 := L4 _ (fun i j hij => ka_s_zero _ (fun t _ => by rw [Pd t i j hij, ka_mz])) s2
    rw [ka_s_congr (g := fun t => a t * kp_w 325 (P t) k) c (fun t ht => by rw [xP t ht]), s1]
    unfold kp_w kvec
    split
    · exact s3 _ _
    · rfl
  have rk0 : kz_rk (kz_V (Λ nw w) (Λ nu u)) 137 := by
    rcases kz_rk_or hK (kz_V (Λ nw w) (Λ nu u)) 137 with q | ⟨r, hr, y, y1, y2, y3⟩
    · exact q
    · exfalso
      have le := kl_le hK (y := fun s => if s < r then y s else kl_e (153 + (s - r))) (n := r + 172) zf (fun t ht => by
        obtain ⟨a, ha⟩ := y3 (kp_w 153 (Λ 24 (P t))) ⟨Λ (24 - nw) (A t), Λ (24 - nu) (B t), by rw [LP]⟩
        refine ⟨fun s => if s < r then a s else kp_w 325 (Λ 24 (P t)) (153 + (s - r)), fun k => ?_⟩
        show kp_w 325 (Λ 24 (P t)) k = ka_s (fun s => (if s < r then a s else kp_w 325 (Λ 24 (P t)) (153 + (s - r))) * (if s < r then y s else kl_e (153 + (s - r))) k) (r + 172)
        rw [ka_s_split, ka_s_congr (g := fun s => a s * y s k) r (fun s hs => by rw [if_pos hs, if_pos hs]), ka_s_congr (g := fun s => kp_w 325 (Λ 24 (P t)) (153 + s) * (kl_e (153 + s) : Nat → K) k) 172 (fun s hs => by rw [if_neg (by omega), if_neg (by omega), show r + s - r = s by omega]), ← ha k]
        by_cases q : k < 153
        · rw [ka_s_zero 172 (fun s hs => by
            show _ * (if k = 153 + s then (1 : K) else 0) = 0
            rw [if_neg (by omega), ka_mz]), ka_az]
          unfold kp_w
          rw [if_pos q, if_pos (by omega)]
        · rw [kz_w0 (by omega), ka_za]
          by_cases q2 : k < 325
          · rw [ka_s_one (k := k - 153) 172 (by omega) (fun s hs hne => by
              show _ * (if k = 153 + s then (1 : K) else 0) = 0
              rw [if_neg (by omega), ka_mz])]
            show _ = kp_w 325 (Λ 24 (P t)) (153 + (k - 153)) * (if k = 153 + (k - 153) then (1 : K) else 0)
            rw [if_pos (by omega), show 153 + (k - 153) = k by omega]
            exact (Lean.Grind.Semiring.mul_one _).symm
          · rw [ka_s_zero 172 (fun s hs => by
              show _ * (if k = 153 + s then (1 : K) else 0) = 0
              rw [if_neg (by omega), ka_mz])]
            exact if_neg q2)
      omega
  obtain ⟨y, y1, y2⟩ := rk0
  have hy : ∀ t, ∃ AB : (Nat → Nat → K) × (Nat → Nat → K), t < 137 → y t = kp_w 153 (fun i j => kc_mul AB.1 (Λ nw w) i j + kc_mul AB.2 (Λ nu u) i j) := fun t => by
    by_cases q : t < 137
    · obtain ⟨A, B, h⟩ := y2 t q
      exact ⟨(A, B), fun _ => h⟩
    · exact ⟨(fun _ _ => 0, fun _ _ => 0), fun z => absurd z q⟩
  obtain ⟨X, hX⟩ : ∃ X : Nat → Nat → Nat → K, X = fun t i j => kc_mul (Classical.choose (hy t)).1 (Λ nw w) i j + kc_mul (Classical.choose (hy t)).2 (Λ nu u) i j := ⟨_, rfl⟩
  have fr : kl_fr (fun t => kp_w 153 (X t)) 137 := kl_fr_congr y1 (fun t ht => by
    rw [hX]
    exact Classical.choose_spec (hy t) ht)
  refine ⟨fun t => kp_w 153 (kc_mul (Λ e hh) (X t)), kz_ufr hK h0 fr, fun t ht => ⟨(Classical.choose (hy t)).1, (Classical.choose (hy t)).2, ?_⟩⟩
  show kp_w 153 (kc_mul (Λ e hh) (X t)) = _
  have ef2 : Λ (e + nw) f = kc_mul (Λ e hh) (Λ nw w) := by rw [ef]; exact L2 e nw hh w (by omega) h1 w1
  have eg2 : Λ (e + nu) g = kc_mul (Λ e hh) (Λ nu u) := by rw [eg]; exact L2 e nu hh u (by omega) h1 u1
  have r : ∀ a b : Nat → Nat → K, kc_mul (kc_mul a b) (Λ e hh) = kc_mul a (kc_mul (Λ e hh) b) := fun a b => by rw [kc_mul_assoc, kc_mul_comm b]
  have eX : X t = fun i j => kc_mul (Classical.choose (hy t)).1 (Λ nw w) i j + kc_mul (Classical.choose (hy t)).2 (Λ nu u) i j := by rw [hX]
  rw [ef2, eg2, eX, kc_mul_comm (Λ e hh) (fun i j => _), kc_mul_add, r, r]
end ZHf
