section ZGi
/-- what a pile makes begins where a line of it begins -/
theorem kp_lead {K : Type} [Lean.Grind.CommRing K] {p : Int} {φ : Int → K} (hK : ka_F K) {W n : Nat} {S : zS2} (hE : kp_E φ p W n S) {v : Nat → K} (hv : kl_sp (kp_x φ W S) n v) {q : Nat} (hq : q < W) (h0 : ∀ k, k < q → v k = 0) (h1 : v q ≠ 0) : S 11 q ≠ -1 := by
  obtain ⟨a1, a2, a3, a4, a5, a6, a7⟩ := hE
  obtain ⟨a, ha⟩ := hv
  have L : ∀ r : Nat, r < n → ∃ c : Nat, c < W ∧ S 11 c = r ∧ kp_x φ W S r c = 1 ∧ ∀ k, k < c → kp_x φ W S r k = 0 := fun r hr => by
    obtain ⟨c, c1, c2⟩ := a5 r hr
    rcases a4 c c1 with z | ⟨r', r1, r2, r3, r4⟩
    · rw [c2] at z; omega
    · have e : r' = r := by rw [c2] at r2; omega
      rw [e] at r3 r4
      refine ⟨c, c1, c2, ?_, fun k hk => ?_⟩
      · unfold kp_x
        rw [if_pos c1]; exact r3
      · unfold kp_x
        rw [if_pos (by omega)]; exact r4 k hk
  have az : ∀ c : Nat, c < q → ∀ r : Nat, r < n → S 11 c = r → a r = 0 := by
    intro c
    induction c using Nat.strongRecOn with
    | _ c ih =>
      intro hc r hr hcr
      obtain ⟨c', c1, c2, c3, c4⟩ := L r hr
      have e := ha c
      rw [h0 c hc] at e
      rw [ka_s_one (k := r) n hr (fun s hs hne => by
        obtain ⟨cs, d1, d2, d3, d4⟩ := L s hs
        rcases Nat.lt_trichotomy cs c with l | l | l
        · rw [ih cs l (by omega) s hs d2, ka_zm]
        · rw [l, hcr] at d2; omega
        · rw [d4 c l, ka_mz])] at e
      rcases a4 c (by omega) with z | ⟨r', r1, r2, r3, r4⟩
      · rw [hcr] at z; omega
      · have er : r' = r := by rw [hcr] at r2; omega
        have one : kp_x φ W S r c = 1 := by
          unfold kp_x
          rw [if_pos (by omega), ← er]; exact r3
        rw [one] at e
        have e2 : a r * 1 = 0 := e.symm
        rw [← e2]
        exact (Lean.Grind.Semiring.mul_one _).symm
  intro z
  apply h1
  rw [ha q]
  refine ka_s_zero _ (fun s hs => ?_)
  obtain ⟨cs, d1, d2, d3, d4⟩ := L s hs
  rcases Nat.lt_trichotomy cs q with l | l | l
  · rw [az cs l s hs d2, ka_zm]
  · rw [l, z] at d2; omega
  · rw [d4 q l, ka_mz]
theorem kl_sp_congr {K I : Type} [Lean.Grind.CommRing K] {x y : Nat → I → K} {n : Nat} {v : I → K} (h : kl_sp x n v) (e : ∀ t, t < n → x t = y t) : kl_sp y n v := by
  obtain ⟨a, ha⟩ := h
  exact ⟨a, fun i => by rw [ha i]; exact ka_s_congr _ (fun t ht => by rw [e t ht])⟩
theorem kl_fr_congr {K I : Type} [Lean.Grind.CommRing K] {x y : Nat → I → K} {n : Nat} (h : kl_fr x n) (e : ∀ t, t < n → x t = y t) : kl_fr y n := fun a ha t ht => h a (fun i => by
  rw [← ha i]
  exact ka_s_congr _ (fun t ht => by rw [e t ht])) t ht
/-- a line is piled -/
theorem kp_pile {K : Type} [Lean.Grind.CommRing K] {p : Int} {φ : Int → K} (h : zKp K p φ) (hpr : zPr p) {W n : Nat} {S : zS2} (hW : W ≤ 325) (hE : kp_E φ p W n S) (hc : ∀ i : Nat, i < W → 0 ≤ S 12 i ∧ S 12 i < p) : (∃ T, zm_piles S = (0, T) ∧ kp_E φ p W n T ∧ (∀ r, r < n → kp_x φ W T r = kp_x φ W S r) ∧ kl_sp (kp_x φ W S) n (kp_v φ W S) ∧ ∀ a i : Nat, a ≠ 12 → T a i = S a i) ∨ ∃ T, zm_piles S = (1, T) ∧ kp_E φ p W (n + 1) T ∧ (∀ r, r < n → kp_x φ W T r = kp_x φ W S r) ∧ kl_sp (kp_x φ W T) (n + 1) (kp_v φ W S) ∧ (∃ y : K, kl_sp (kp_x φ W S) n (fun k => kp_x φ W T n k + (-y) * kp_v φ W S k)) ∧ ∀ a i : Nat, a ≠ 10 → a ≠ 11 → a ≠ 12 → ¬ (a = 0 ∧ i = 23) → T a i = S a i := by
  have hp := zPr_2 hpr
  rcases kp_red h (show 0 < p by omega) hE 327 0 S (Nat.zero_le _) (by omega) (fun _ _ _ => rfl) hc (fun i hi => absurd hi (Nat.not_lt_zero _)) with ⟨q, T, t1, t2, t3⟩ | ⟨q, T, t1, t2, t3, t4, t5, t6, t7, t8⟩
  · have e : zm_piles S = (0, T) := by
      unfold zm_piles zm_reduced
      have t1' : zm_reduced_W2 327 0 S = Sum.inr (q, T) := t1
      rw [t1', zlet_v]
      dsimp only [zsum]
      rw [if_pos rfl]
    have hT : kp_E φ p W n T := hE.same (fun a i hh => t2 a i (by omega))
    exact Or.inl ⟨T, e, hT, fun r hr => funext fun k => by
      unfold kp_x
      rw [t2 10 _ (by decide)], t3, t2⟩
  · obtain ⟨a1, a2, a3, a4, a5, a6, a7⟩ := hE
    have T10 : T 0 10 = p := by rw [t3 0 10 (by decide), a1]
    have T24 : T 0 24 = W := by rw [t3 0 24 (by decide), a2]
    have T23 : T 0 23 = n := by rw [t3 0 23 (by decide), a3]
    obtain ⟨z, hz⟩ : ∃ z, z = zm_inverse T (T 12 q) := ⟨_, rfl⟩
    have iv : φ z * φ (T 12 q) = 1 := by
      rw [hz]
      exact zK_minv h hpr T10 (t4 q t2) t5
    have z0 : 0 ≤ z := by
      rw [hz]
      show 0 ≤ zm_modulo T (zfor (zm_power_L5 T (T 12 q)) 0 1 (((T 0 10 - 2) - 1) + 1 - 0).toNat)
      rw [zB_mod T10 (by omega)]
      exact Int.emod_nonneg _ (by omega)
    have f : (fun (m : Nat) (Y : zS2) => (∀ a i : Nat, a ≠ 10 → Y a i = T a i) ∧ ∀ i : Nat, Y 10 i = if 325 * n ≤ i ∧ i < 325 * n + m then (T 12 (i - 325 * n) * z) % p else T 10 i) W (zfor (zm_piles_L25 z) 0 T W) := by
      refine zfor_ix (I := fun (m : Nat) (Y : zS2) => (∀ a i : Nat, a ≠ 10 → Y a i = T a i) ∧ ∀ i : Nat, Y 10 i = if 325 * n ≤ i ∧ i < 325 * n + m then (T 12 (i - 325 * n) * z) % p else T 10 i) ⟨fun _ _ _ => rfl, fun i => by rw [if_neg (by omega)]⟩ W (fun m Y hm hY => ?_)
      have es : zm_piles_L25 z (0 + (m : Int)) Y = za Y 10 (325 * n + m) ((T 12 m * z) % p) := by
        unfold zm_piles_L25
        dsimp only
        rw [zlet_v, hY.1 0 23 (by decide), T23, show ((325 * (n : Int)) + (0 + (m : Int))).toNat = 325 * n + m by omega, show (0 + (m : Int)).toNat = m by omega, hY.1 12 m (by decide), hY.1 0 10 (by decide), T10, Int.tmod_eq_emod_of_nonneg (Int.mul_nonneg (t4 m hm).1 z0)]
      rw [es]
      refine ⟨fun a i ha => by rw [za_ne (by omega)]; exact hY.1 a i ha, fun i => ?_⟩
      by_cases e : i = 325 * n + m
      · rw [e, za_same, if_pos (by omega), show 325 * n + m - 325 * n = m by omega]
      · rw [za_ne (by omega), hY.2 i]
        by_cases y : 325 * n ≤ i ∧ i < 325 * n + m
        · rw [if_pos y, if_pos (by omega)]
        · rw [if_neg y, if_neg (by omega)]
    obtain ⟨Y, hYd⟩ : ∃ Y, Y = zfor (zm_piles_L25 z) 0 T W := ⟨_, rfl⟩
    rw [← hYd] at f
    obtain ⟨f1, f2⟩ := f
    obtain ⟨U, hU⟩ : ∃ U, U = za (za Y 11 q n) 0 23 ((n : Int) + 1) := ⟨_, rfl⟩
    have e : zm_piles S = (1, U) := by
      unfold zm_piles zm_reduced
      have t1' : zm_reduced_W2 327 0 S = Sum.inl ((q : Int), T) := t1
      rw [t1', zlet_v]
      dsimp only [zsum]
      rw [if_neg (by omega)]
      simp only [zlet_v]
      rw [Int.toNat_natCast, ← hz, T24, show ((W : Int) - 1 + 1 - 0).toNat = W by omega, ← hYd, f1 0 23 (by decide), T23, za_ne (by omega), f1 0 23 (by decide), T23, ← hU]
    have u0 : ∀ a i : Nat, ¬ (a = 0 ∧ i = 23) → ¬ (a = 11 ∧ i = q) → U a i = Y a i := fun a i h1 h2 => by
      rw [hU, za_ne h1, za_ne h2]
    have u10 : ∀ i : Nat, U 10 i = if 325 * n ≤ i ∧ i < 325 * n + W then (T 12 (i - 325 * n) * z) % p else S 10 i := fun i => by
      rw [u0 10 i (by omega) (by omega), f2 i, t3 10 i (by decide)]
    have u11 : ∀ i : Nat, U 11 i = if i = q then (n : Int) else S 11 i := fun i => by
      by_cases e : i = q
      · rw [if_pos e, hU, za_ne (by omega), e, za_same]
      · rw [if_neg e, u0 11 i (by omega) (by omega), f1 11 i (by decide), t3 11 i (by decide)]
    have old : ∀ r, r < n → ∀ k, k < W → U 10 (325 * r + k) = S 10 (325 * r + k) := fun r hr k hk => by
      rw [u10, if_neg (by omega)]
    have new : ∀ k, k < W → U 10 (325 * n + k) = (T 12 k * z) % p := fun k hk => by
      rw [u10, if_pos (by omega), show 325 * n + k - 325 * n = k by omega]
    have xo : ∀ r, r < n → kp_x φ W U r = kp_x φ W S r := fun r hr => funext fun k => by
      unfold kp_x
      by_cases y : k < W
      · rw [if_pos y, if_pos y, old r hr k y]
      · rw [if_neg y, if_neg y]
    have xn : kp_x φ W U n = fun k => φ z * kp_v φ W T k := funext fun k => by
      unfold kp_x kp_v
      by_cases y : k < W
      · rw [if_pos y, if_pos y, new k y, h.em, h.ml]
        exact Lean.Grind.CommSemiring.mul_comm _ _
      · rw [if_neg y, if_neg y, ka_mz]
    have hE0 : kp_E φ p W n S := ⟨a1, a2, a3, a4, a5, a6, a7⟩
    have nsp : ¬ kl_sp (kp_x φ W U) n (kp_x φ W U n) := fun w => by
      have w2 := kl_sp_congr w xo
      refine kp_lead h.F hE0 w2 t2 (fun k hk => ?_) ?_ t7
      · rw [xn]
        show φ z * kp_v φ W T k = 0
        unfold kp_v
        rw [if_pos (by omega), t6 k hk, h.z, ka_mz]
      · rw [xn]
        show φ z * kp_v φ W T q ≠ 0
        unfold kp_v
        rw [if_pos t2, iv]
        exact h.F.1
    have fr1 : kl_fr (kp_x φ W U) (n + 1) := kl_fr_s h.F (kl_fr_congr a7 (fun t ht => (xo t ht).symm)) nsp
    refine Or.inr ⟨U, e, ⟨?_, ?_, ?_, fun c hc => ?_, fun r hr => ?_, fun r k hr hk => ?_, fr1⟩, xo, ?_, ⟨φ z, ?_⟩, fun a i h1 h2 h3 h4 => ?_⟩
    · rw [u0 0 10 (by omega) (by omega), f1 0 10 (by decide), T10]
    · rw [u0 0 24 (by omega) (by omega), f1 0 24 (by decide), T24]
    · rw [hU, za_same]; omega
    · rw [u11]
      by_cases y : c = q
      · rw [if_pos y]
        refine Or.inr ⟨n, by omega, rfl, ?_, fun k hk => ?_⟩
        · rw [y, new q t2, h.em, h.ml, Lean.Grind.CommSemiring.mul_comm]; exact iv
        · rw [new k (by omega), t6 k (by omega), h.em, h.ml, h.z, ka_zm]
      · rw [if_neg y]
        rcases a4 c hc with w | ⟨r, r1, r2, r3, r4⟩
        · exact Or.inl w
        · exact Or.inr ⟨r, by omega, r2, by rw [old r r1 c hc]; exact r3, fun k hk => by rw [old r r1 k (by omega)]; exact r4 k hk⟩
    · by_cases y : r = n
      · exact ⟨q, t2, by rw [u11, if_pos rfl, y]⟩
      · obtain ⟨c, c1, c2⟩ := a5 r (by omega)
        refine ⟨c, c1, ?_⟩
        rw [u11, if_neg (fun w => by rw [w, t7] at c2; omega)]
        exact c2
    · by_cases y : r = n
      · rw [y, new k hk]
        exact ⟨Int.emod_nonneg _ (by omega), Int.emod_lt_of_pos _ (by omega)⟩
      · rw [old r (by omega) k hk]
        exact a6 r k (by omega) hk
    · have s1 : kl_sp (kp_x φ W U) (n + 1) (fun k => kp_v φ W S k + (-1) * kp_v φ W T k) := kl_sp_mono (kl_sp_congr t8 (fun t ht => (xo t ht).symm)) (Nat.le_succ _)
      have s2 := kl_sp_add s1 (kl_sp_own (x := kp_x φ W U) (Nat.lt_succ_self n)) (φ (T 12 q))
      have e3 : (fun i => (kp_v φ W S i + (-1) * kp_v φ W T i) + φ (T 12 q) * kp_x φ W U n i) = kp_v φ W S := funext fun i => by
        rw [xn]
        show (kp_v φ W S i + (-1) * kp_v φ W T i) + φ (T 12 q) * (φ z * kp_v φ W T i) = kp_v φ W S i
        have e4 : φ (T 12 q) * (φ z * kp_v φ W T i) = (φ z * φ (T 12 q)) * kp_v φ W T i := by
          generalize kp_v φ W T i = x1
          generalize φ (T 12 q) = x2
          generalize φ z = x3
          grind
        rw [e4, iv, ka_om]
        generalize kp_v φ W S i = x1
        generalize kp_v φ W T i = x2
        grind
      rw [← e3]
      exact s2
    · have s2 := kl_sp_add (kl_sp_zero (kp_x φ W S) n) t8 (-(φ z))
      have e3 : (fun i => (0 : K) + (-(φ z)) * (kp_v φ W S i + (-1) * kp_v φ W T i)) = fun k => kp_x φ W U n k + (-(φ z)) * kp_v φ W S k := funext fun i => by
        rw [xn]
        show (0 : K) + (-(φ z)) * (kp_v φ W S i + (-1) * kp_v φ W T i) = φ z * kp_v φ W T i + (-(φ z)) * kp_v φ W S i
        generalize kp_v φ W S i = x1
        generalize kp_v φ W T i = x2
        generalize φ z = x3
        grind
      rw [← e3]
      exact s2
    · rw [u0 a i (by omega) (by omega), f1 a i h1, t3 a i h3]
end ZGi
