section ZWh
theorem kc_1_pw {K : Type} [Lean.Grind.CommRing K] (k : Nat) : kc_pw (kc_t (1 : K) 0 0) k = kc_t 1 0 0 := by
  rw [kc_pw_t]
  simp
theorem kc_l_1 {K : Type} [Lean.Grind.CommRing K] : kc_l (0 : K) 0 1 = kc_t 1 0 0 := funext fun i => funext fun j => by
  unfold kc_l kc_t
  by_cases c1 : i = 1 ∧ j = 0
  · rw [if_pos c1, if_neg (by omega)]
  · rw [if_neg c1]
    by_cases c2 : i = 0 ∧ j = 1
    · rw [if_pos c2, if_neg (by omega)]
    · rw [if_neg c2]
/-- a FORM times z to the 16, near a POINT at infinity -/
theorem kh_far16 {K : Type} [Lean.Grind.CommRing K] (hK : ka_F K) {Λ : Nat → (Nat → Nat → K) → Nat → Nat → K} (hΛ : kh_ok Λ) (h0 : Λ 1 (kc_l 0 0 1) 0 0 = 0) {P : Nat → Nat → K} (hP : ∀ i j, 8 < i + j → P i j = 0) : ∀ i j, i + j < 16 → Λ 24 P i j = 0 := by
  have dl : ∀ i j, 1 < i + j → kc_l (0 : K) 0 1 i j = 0 := kc_l_dg
  obtain ⟨b1, _, b3⟩ := kB_pw hK hΛ dl 16 (by omega)
  have e : kc_mul P (kc_pw (kc_l 0 0 1) 16) = P := by rw [kc_l_1, kc_1_pw, kc_mul_comm, kc_1_mul]
  have m := hΛ.2.1 8 16 P (kc_pw (kc_l 0 0 1) 16) (by omega) hP b1
  rw [e] at m
  rw [show (24 : Nat) = 8 + 16 from rfl, m]
  exact fun i j hij => kw_ord (a := 0) (b := 16) (fun i j h => absurd h (Nat.not_lt_zero _)) (b3 h0) i j (by omega)
/-- what two make and FORMS of DEGREE 8: how many, against the TIMES at infinity -/
theorem kB_far {K : Type} [Lean.Grind.CommRing K] (hK : ka_F K) {Λ : Nat → Nat → (Nat → Nat → K) → Nat → Nat → K} {ln : Nat → Nat → Nat → Nat → K} {n m r2 s : Nat} {f g : Nat → Nat → K} {t : Nat → Nat} (hn : n ≤ 24) (hm : m ≤ 24) (f1 : ∀ i j, n < i + j → f i j = 0) (g1 : ∀ i j, m < i + j → g i j = 0) (h2 : kl_dim (kG8 (nT (25 - n)) (nT (25 - m)) f g) r2) (h25 : kns t s ≤ 25) (hq : ∀ q, q < s → kh_ok (Λ q) ∧ kh_sur (Λ q) ∧ kPT (Λ q) n m f g (t q)) (hl : kLn Λ ln s) (h0 : ∀ q, q < s → Λ q 1 (kc_l 0 0 1) 0 0 = 0) : r2 ≤ 325 - kns t s := by
  have d := kB_dim hK (Λ := Λ) (F := fun q => Λ q n f) (G := fun q => Λ q m g) (t := t) (ln := ln) s h25 (fun q h => ⟨(hq q h).1, (hq q h).2.1, (hq q h).2.2.1, (hq q h).2.2.2⟩) hl
  have cU := kB_U_cl (Λ := Λ) (F := fun q => Λ q n f) (G := fun q => Λ q m g) (s := s) (fun q h => (hq q h).1)
  refine kl_dim_le hK d h2 (fun v ⟨u, P, hu, hP, e⟩ => ?_)
  have a1 := kB_I (Λ := Λ) (s := s) (fun q h => (hq q h).1) hn hm f1 g1 hu
  have a2 : kB_U Λ (fun q => Λ q n f) (fun q => Λ q m g) s (kp_w 325 P) := ⟨fun k hk => if_neg (by omega), fun q h => by
    have tt := (hq q h).2.2.1
    unfold kB_T
    rw [kUn_w (fun i j hij => hP i j (by omega))]
    exact kw_Vz.2 (kw_hi (T := 16) (fun i j hij => kw_16 hK (n := 153 - t q) (by omega) (hq q h).2.2.2.rk 17 hij) (kh_far16 hK (hq q h).1 (h0 q h) hP))⟩
  have a3 := cU.s a1 a2 1 1
  have e3 : v = fun i => 1 * u i + 1 * kp_w 325 P i := by
    rw [e]
    exact funext fun k => by rw [ka_om, ka_om]
  rw [e3]
  exact a3
/-- free modulo a part: so many fewer there -/
theorem kl_modfree {K : Type} [Lean.Grind.CommRing K] (hK : ka_F K) {U : (Nat → K) → Prop} {r N D : Nat} (dU : kl_dim U r) (cU : kl_cl U) (x : Nat → Nat → K) (hf : ∀ a : Nat → K, U (fun i => ka_s (fun t => a t * x t i) N) → ∀ t, t < N → a t = 0) (hU : ∀ v, U v → ∀ k, D ≤ k → v k = 0) (hx : ∀ t, t < N → ∀ k, D ≤ k → x t k = 0) : r + N ≤ D := by
  obtain ⟨b, b1, b2, _⟩ := dU
  have zf : kl_fr (fun t => if t < r then b t else x (t - r)) (r + N) := fun a ha => by
    have e : ∀ i, ka_s (fun t => a t * b t i) r + ka_s (fun t => a (r + t) * x t i) N = 0 := fun i => by
      have q := ha i
      rw [ka_s_split, ka_s_congr (g := fun t => a t * b t i) r (fun t ht => by
        show a t * (if t < r then b t else x (t - r)) i = _
        rw [if_pos ht]), ka_s_congr (g := fun t => a (r + t) * x t i) N (fun t ht => by
        show a (r + t) * (if r + t < r then b (r + t) else x (r + t - r)) i = _
        rw [if_neg (by omega), show r + t - r = t by omega])] at q
      exact q
    have hb : U (fun i => ka_s (fun t => a t * b t i) r) := cU a b r b2
    have hx2 : U (fun i => ka_s (fun t => a (r + t) * x t i) N) := by
      have q := cU.s hb hb 0 (-1)
      refine Eq.mp (congrArg U (funext fun i => ?_)) q
      have := e i
      grind
    have z2 := hf (fun t => a (r + t)) hx2
    intro t ht
    by_cases c : t < r
    · refine b1 a (fun i => ?_) t c
      have q := e i
      rw [ka_s_zero N (fun t ht => by rw [z2 t ht, ka_zm]), ka_az] at q
      exact q
    · have := z2 (t - r) (by omega)
      rwa [show r + (t - r) = t by omega] at this
  refine kl_le hK (y := fun t => kl_e t) (n := D) zf (fun t ht => ⟨if t < r then b t else x (t - r), fun k => ?_⟩)
  rw [kl_e_sum]
  by_cases q : k < D
  · rw [if_pos q]
  · rw [if_neg q]
    by_cases c : t < r
    · rw [if_pos c]
      exact hU _ (b2 t c) k (by omega)
    · rw [if_neg c]
      exact hx _ (by omega) k (by omega)
theorem kl_r_t1 {K : Type} [Lean.Grind.CommRing K] (v a s x : K) (h : a * v = 1) : v * (s + a * x) = x + v * s := by grind
/-- each one not made of those ahead: free -/
theorem kl_top {K : Type} [Lean.Grind.CommRing K] (hK : ka_F K) {U : (Nat → K) → Prop} (cU : kl_cl U) (x : Nat → Nat → K) (N0 : Nat) (h0 : ∀ a : Nat → K, U (fun i => ka_s (fun t => a t * x t i) N0) → ∀ t, t < N0 → a t = 0) : ∀ N, N0 ≤ N → (∀ t, N0 ≤ t → t < N → ∀ a : Nat → K, ¬ U (fun i => x t i + ka_s (fun l => a l * x l i) t)) → ∀ a : Nat → K, U (fun i => ka_s (fun t => a t * x t i) N) → ∀ t, t < N → a t = 0 := fun N => by
  induction N with
  | zero => exact fun h _ a ha t ht => absurd ht (Nat.not_lt_zero _)
  | succ N ih =>
    intro hN hx a ha t ht
    by_cases c0 : N0 = N + 1
    · subst c0
      exact h0 a ha t ht
    have aN : a N = 0 := by
      refine Classical.byContradiction fun ne => ?_
      obtain ⟨v, hv⟩ := hK.2 _ ne
      refine hx N (by omega) (by omega) (fun l => v * a l) ?_
      have q := cU.s ha ha v 0
      refine Eq.mp (congrArg U (funext fun i => ?_)) q
      show v * (ka_s (fun t => a t * x t i) N + a N * x N i) + 0 * _ = x N i + ka_s (fun l => v * a l * x l i) N
      rw [ka_zm, ka_az, kl_r_t1 v _ _ _ hv, ← ka_s_mul]
      exact congrArg (x N i + ·) (ka_s_congr _ (fun l _ => (ka_rg4 v (a l) (x l i)).symm))
    by_cases c1 : t = N
    · rw [c1, aN]
    · refine ih (by omega) (fun t h1 h2 => hx t h1 (by omega)) a (Eq.mp (congrArg U (funext fun i => ?_)) ha) t (by omega)
      show ka_s (fun t => a t * x t i) N + a N * x N i = _
      rw [aN, ka_zm, ka_az]
end ZWh
