section ZIf
/-- one line of a LOCAL one -/
theorem kp_loc1_f {K : Type} [Lean.Grind.CommRing K] {p : Int} {φ : Int → K} (h : zKp K p φ) (hpr : zPr p) {i j : Nat} {S : zS2} {G H : (Nat → K) → Prop} {c : Nat → Int} (hG : kp_C G) (hij : i + j ≤ 16) (hI : kp_I φ p 153 G H S) (hc : ∀ a b : Nat, a + b ≤ 4 → S 16 (17 * a + b) = c (5 * a + b)) (hcan : zcan p c) (hv : G (kp_w 153 (kc_mul (kc_t 1 i j) (zq φ c)))) : ∃ T, zm_pilesLocal_f_L10 i j S = T ∧ kp_I φ p 153 G (fun w => H w ∨ w = kp_w 153 (kc_mul (kc_t 1 i j) (zq φ c))) T ∧ ∀ a i : Nat, a ≠ 10 → a ≠ 11 → a ≠ 12 → ¬ (a = 0 ∧ (i = 23 ∨ i = 26)) → T a i = S a i := by
  have hp := zPr_2 hpr
  have s24 : S 0 24 = (153 : Nat) := by
    obtain ⟨n, hn, _⟩ := hI
    exact hn.2.1
  have e0 : ∀ a i : Nat, (zm_emptiesVector S) a i = if a = 12 ∧ 0 ≤ i ∧ i < 0 + 153 then 0 else S a i := by
    have e : zm_emptiesVector S = zfor zm_emptiesVector_L2 0 S 153 := by
      unfold zm_emptiesVector
      rw [zlet_v, s24]
      rfl
    rw [e]
    exact zfor_fill (g := fun _ => 0) 153 (fun k x hk hx => by
      unfold zm_emptiesVector_L2
      dsimp only
      rw [zlet_v, show (0 + (k : Int)).toNat = 0 + k by omega])
  obtain ⟨E, hE⟩ : ∃ E, E = zm_emptiesVector S := ⟨_, rfl⟩
  rw [← hE] at e0
  have lay : ∀ t : Nat, t < 153 → ((∀ a q : Nat, a ≠ 12 → (zfor (zm_pilesLocal_f_L25 i j) 0 E 5) a q = S a q) ∧ (∀ q : Nat, q < 153 → 0 ≤ (zfor (zm_pilesLocal_f_L25 i j) 0 E 5) 12 q ∧ (zfor (zm_pilesLocal_f_L25 i j) 0 E 5) 12 q < p)) ∧ φ ((zfor (zm_pilesLocal_f_L25 i j) 0 E 5) 12 t) = kvec (kc_mul (kc_t 1 i j) (zq φ c)) t := fun t ht => by
    obtain ⟨A, hA⟩ : ∃ A, A = (ndc t).1 := ⟨_, rfl⟩
    obtain ⟨B, hB⟩ : ∃ B, B = (ndc t).2 := ⟨_, rfl⟩
    have et : t = ncol A B := by rw [hA, hB, ncol_ndc]
    have dAB : A + B < 17 := by
      rw [hA, hB]
      exact ndc_dg (by rw [kz_T17.1]; exact ht)
    obtain ⟨X, hX⟩ : ∃ X, X = if i ≤ A ∧ j ≤ B then A - i else 5 := ⟨_, rfl⟩
    obtain ⟨Y, hY⟩ : ∃ Y, Y = B - j := ⟨_, rfl⟩
    have hh := zfor_hitD (s := E) (D := 5) (so := zm_pilesLocal_f_L25 i j) (si := zm_pilesLocal_f_L34 i j) (fun Z : zS2 => Z 12 t) (fun Z => (∀ a q : Nat, a ≠ 12 → Z a q = S a q) ∧ (∀ q : Nat, q < 153 → 0 ≤ Z 12 q ∧ Z 12 q < p)) ⟨fun a q ha => by rw [e0, if_neg (by omega)], fun q hq => by rw [e0, if_pos (by omega)]; omega⟩ (X := X) (Y := Y) (v := c (5 * X + Y)) (fun a x ha => by
      unfold zm_pilesLocal_f_L25
      dsimp only
      rw [zlet_v, show (4 - (a : Int) + 1 - 0).toNat = 5 - a by omega]) (fun a b Z hab hZ => by
      have es : zm_pilesLocal_f_L34 i j a b Z = if 16 < i + j + a + b then Z else za Z 12 (ncol (i + a) (j + b)) (c (5 * a + b)) := by
        unfold zm_pilesLocal_f_L34
        dsimp only
        by_cases q : 16 < i + j + a + b
        · rw [if_pos (show (16 : Int) < ((i : Int) + (j : Int)) + (a : Int) + (b : Int) by omega), if_pos q]
        · rw [if_neg (show ¬ (16 : Int) < ((i : Int) + (j : Int)) + (a : Int) + (b : Int) by omega), if_neg q, zlet_v, zlet_v, show (i : Int) + (a : Int) = ((i + a : Nat) : Int) by omega, show (j : Int) + (b : Int) = ((j + b : Nat) : Int) by omega, zm_long_n, Int.toNat_natCast, show (17 * (a : Int) + (b : Int)).toNat = 17 * a + b by omega, hZ.1 16 _ (by decide), hc a b (by omega)]
      rw [es]
      by_cases q : 16 < i + j + a + b
      · rw [if_pos q]
        refine ⟨hZ, fun _ => rfl, fun e _ => ?_⟩
        exfalso
        by_cases q2 : i ≤ A ∧ j ≤ B
        · rw [if_pos q2] at hX
          omega
        · rw [if_neg q2] at hX
          omega
      · rw [if_neg q]
        have rg := hcan (5 * a + b)
        refine ⟨⟨fun x q hx => by rw [za_ne (by omega)]; exact hZ.1 x q hx, fun q hq => ?_⟩, fun hne => ?_, fun e _ => ?_⟩
        · by_cases z : q = ncol (i + a) (j + b)
          · rw [z, za_same]; exact rg
          · rw [za_ne (by omega)]; exact hZ.2 q hq
        · show za Z 12 (ncol (i + a) (j + b)) (c (5 * a + b)) 12 t = Z 12 t
          refine za_ne (fun z => ?_)
          obtain ⟨z1, z2⟩ := ncol_inj (et.symm.trans z.2)
          rw [if_pos (by omega)] at hX
          exact hne ⟨by omega, by omega⟩
        · show za Z 12 (ncol (i + a) (j + b)) (c (5 * a + b)) 12 t = c (5 * X + Y)
          by_cases q : i ≤ A ∧ j ≤ B
          · rw [if_pos q] at hX
            have e1 : i + a = A := by omega
            have e2 : j + b = B := by omega
            rw [e1, e2, ← et, za_same, e.1, e.2]
          · rw [if_neg q] at hX
            omega)
    refine ⟨hh.1, ?_⟩
    have h2 := hh.2
    have h3 : (zfor (zm_pilesLocal_f_L25 i j) 0 E 5) 12 t = if X + Y < 5 then c (5 * X + Y) else E 12 t := h2
    rw [h3]
    unfold kvec
    rw [kc_t_mul, ← hA, ← hB]
    by_cases q : i ≤ A ∧ j ≤ B
    · rw [if_pos q] at hX ⊢
      rw [hX, hY, ka_om]
      by_cases y : A - i + (B - j) < 5
      · rw [if_pos y, zq_t (by omega)]
      · rw [if_neg y, e0, if_pos (by omega), h.z, zq_f (by omega)]
    · rw [if_neg q] at hX ⊢
      rw [if_neg (by omega), e0, if_pos (by omega), h.z]
  obtain ⟨V, hV⟩ : ∃ V, V = zfor (zm_pilesLocal_f_L25 i j) 0 E 5 := ⟨_, rfl⟩
  rw [← hV] at lay
  have vo := (lay 0 (by decide)).1.1
  have vc := (lay 0 (by decide)).1.2
  have vv : kp_v φ 153 V = kp_w 153 (kc_mul (kc_t 1 i j) (zq φ c)) := funext fun t => by
    unfold kp_v kp_w
    by_cases q : t < 153
    · rw [if_pos q, if_pos q, (lay t q).2]
    · rw [if_neg q, if_neg q]
  obtain ⟨z, T, t1, t2, t3⟩ := kp_I.step h hpr (S := V) hG (by decide) (hI.same (fun a q hq => vo a q (by omega))) vc (by rw [vv]; exact hv)
  rw [vv] at t2
  have eF : ∃ x : Int, zm_pilesLocal_f_L10 i j S = za T 0 26 x := by
    have e1 : zm_pilesLocal_f_L10 i j S = if z = 0 then za T 0 26 ((V 0 26) + 0) else za T 0 26 ((V 0 26) + 1) := by
      unfold zm_pilesLocal_f_L10
      dsimp only
      rw [zlet_v, ← hE, zlet_v, show (4 + 1 - 0 : Int).toNat = 5 by decide, ← hV, t1]
      simp only [zlet_v]
    rw [e1]
    by_cases q : z = 0
    · exact ⟨_, by rw [if_pos q]⟩
    · exact ⟨_, by rw [if_neg q]⟩
  obtain ⟨x, hx⟩ := eF
  refine ⟨za T 0 26 x, hx, t2.same (fun a q hq => za_ne (by omega)), fun a q h1 h2 h3 h4 => ?_⟩
  rw [za_ne (by omega), t3 a q h1 h2 h3 (by omega), vo a q h3]
/-- all lines of a LOCAL one -/
theorem kp_loc_f {K : Type} [Lean.Grind.CommRing K] {p : Int} {φ : Int → K} (h : zKp K p φ) (hpr : zPr p) {S : zS2} {G H : (Nat → K) → Prop} {c : Nat → Int} (hG : kp_C G) (hI : kp_I φ p 153 G H S) (hc : ∀ a b : Nat, a + b ≤ 4 → S 16 (17 * a + b) = c (5 * a + b)) (hcan : zcan p c) (hv : ∀ i j, i + j ≤ 16 → G (kp_w 153 (kc_mul (kc_t 1 i j) (zq φ c)))) : ∃ T, zm_pilesLocal_f S = T ∧ kp_I φ p 153 G (fun w => H w ∨ ∃ i j, i + j ≤ 16 ∧ w = kp_w 153 (kc_mul (kc_t 1 i j) (zq φ c))) T ∧ ∀ a i : Nat, a ≠ 10 → a ≠ 11 → a ≠ 12 → ¬ (a = 0 ∧ (i = 23 ∨ i = 26)) → T a i = S a i := by
  have e : zm_pilesLocal_f S = zfor zm_pilesLocal_f_L2 0 S 17 := by
    unfold zm_pilesLocal_f
    rw [zlet_v]
    rfl
  rw [e]
  have lp := zfor_ix (step := zm_pilesLocal_f_L2) (a := 0) (s := S) (fun (n : Nat) (X : zS2) => kp_I φ p 153 G (fun w => H w ∨ ∃ i j, i < n ∧ i + j ≤ 16 ∧ w = kp_w 153 (kc_mul (kc_t 1 i j) (zq φ c))) X ∧ ∀ a i : Nat, a ≠ 10 → a ≠ 11 → a ≠ 12 → ¬ (a = 0 ∧ (i = 23 ∨ i = 26)) → X a i = S a i) ⟨hI.mono (fun v hv => by
      rcases hv with hv | ⟨i, j, q, _⟩
      · exact hv
      · exact absurd q (Nat.not_lt_zero _)), fun _ _ _ _ _ _ => rfl⟩ 17 (fun i X hi hX => by
    rw [show 0 + (i : Int) = (i : Int) by omega]
    have e2 : zm_pilesLocal_f_L2 i X = zfor (zm_pilesLocal_f_L10 i) 0 X (17 - i) := by
      unfold zm_pilesLocal_f_L2
      dsimp only
      rw [zlet_v, show (16 - (i : Int) + 1 - 0).toNat = 17 - i by omega]
    rw [e2]
    have lp2 := zfor_ix (step := zm_pilesLocal_f_L10 i) (a := 0) (s := X) (fun (n : Nat) (X : zS2) => kp_I φ p 153 G (fun w => H w ∨ ∃ i' j, (i' < i ∨ (i' = i ∧ j < n)) ∧ i' + j ≤ 16 ∧ w = kp_w 153 (kc_mul (kc_t 1 i' j) (zq φ c))) X ∧ ∀ a i : Nat, a ≠ 10 → a ≠ 11 → a ≠ 12 → ¬ (a = 0 ∧ (i = 23 ∨ i = 26)) → X a i = S a i) ⟨hX.1.mono (fun v hv => by
        rcases hv with hv | ⟨i', j, q, q2⟩
        · exact Or.inl hv
        · exact Or.inr ⟨i', j, by omega, q2⟩), hX.2⟩ (17 - i) (fun j Y hj hY => by
      rw [show 0 + (j : Int) = (j : Int) by omega]
      obtain ⟨T, t1, t2, t3⟩ := kp_loc1_f h hpr (i := i) (j := j) (c := c) hG (by omega) hY.1 (fun a b hab => by
        rw [hY.2 16 _ (by decide) (by decide) (by decide) (by omega)]
        exact hc a b hab) hcan (hv i j (by omega))
      rw [t1]
      refine ⟨t2.mono (fun v hv => ?_), fun a q h1 h2 h3 h4 => by rw [t3 a q h1 h2 h3 h4, hY.2 a q h1 h2 h3 h4]⟩
      rcases hv with hv | ⟨i', j', q, q2, q3⟩
      · exact Or.inl (Or.inl hv)
      · by_cases z : i' = i ∧ j' = j
        · rw [z.1, z.2] at q3
          exact Or.inr q3
        · exact Or.inl (Or.inr ⟨i', j', by omega, q2, q3⟩))
    refine ⟨lp2.1.mono (fun v hv => ?_), lp2.2⟩
    rcases hv with hv | ⟨i', j, q, q2⟩
    · exact Or.inl hv
    · exact Or.inr ⟨i', j, by omega, q2⟩)
  refine ⟨_, rfl, lp.1.mono (fun v hv => ?_), lp.2⟩
  rcases hv with hv | ⟨i, j, q, q2⟩
  · exact Or.inl hv
  · exact Or.inr ⟨i, j, by omega, q, q2⟩
/-- one line of a LOCAL one -/
theorem kp_loc1_g {K : Type} [Lean.Grind.CommRing K] {p : Int} {φ : Int → K} (h : zKp K p φ) (hpr : zPr p) {i j : Nat} {S : zS2} {G H : (Nat → K) → Prop} {c : Nat → Int} (hG : kp_C G) (hij : i + j ≤ 16) (hI : kp_I φ p 153 G H S) (hc : ∀ a b : Nat, a + b ≤ 4 → S 17 (17 * a + b) = c (5 * a + b)) (hcan : zcan p c) (hv : G (kp_w 153 (kc_mul (kc_t 1 i j) (zq φ c)))) : ∃ T, zm_pilesLocal_g_L10 i j S = T ∧ kp_I φ p 153 G (fun w => H w ∨ w = kp_w 153 (kc_mul (kc_t 1 i j) (zq φ c))) T ∧ ∀ a i : Nat, a ≠ 10 → a ≠ 11 → a ≠ 12 → ¬ (a = 0 ∧ (i = 23 ∨ i = 26)) → T a i = S a i := by
  have hp := zPr_2 hpr
  have s24 : S 0 24 = (153 : Nat) := by
    obtain ⟨n, hn, _⟩ := hI
    exact hn.2.1
  have e0 : ∀ a i : Nat, (zm_emptiesVector S) a i = if a = 12 ∧ 0 ≤ i ∧ i < 0 + 153 then 0 else S a i := by
    have e : zm_emptiesVector S = zfor zm_emptiesVector_L2 0 S 153 := by
      unfold zm_emptiesVector
      rw [zlet_v, s24]
      rfl
    rw [e]
    exact zfor_fill (g := fun _ => 0) 153 (fun k x hk hx => by
      unfold zm_emptiesVector_L2
      dsimp only
      rw [zlet_v, show (0 + (k : Int)).toNat = 0 + k by omega])
  obtain ⟨E, hE⟩ : ∃ E, E = zm_emptiesVector S := ⟨_, rfl⟩
  rw [← hE] at e0
  have lay : ∀ t : Nat, t < 153 → ((∀ a q : Nat, a ≠ 12 → (zfor (zm_pilesLocal_g_L25 i j) 0 E 5) a q = S a q) ∧ (∀ q : Nat, q < 153 → 0 ≤ (zfor (zm_pilesLocal_g_L25 i j) 0 E 5) 12 q ∧ (zfor (zm_pilesLocal_g_L25 i j) 0 E 5) 12 q < p)) ∧ φ ((zfor (zm_pilesLocal_g_L25 i j) 0 E 5) 12 t) = kvec (kc_mul (kc_t 1 i j) (zq φ c)) t := fun t ht => by
    obtain ⟨A, hA⟩ : ∃ A, A = (ndc t).1 := ⟨_, rfl⟩
    obtain ⟨B, hB⟩ : ∃ B, B = (ndc t).2 := ⟨_, rfl⟩
    have et : t = ncol A B := by rw [hA, hB, ncol_ndc]
    have dAB : A + B < 17 := by
      rw [hA, hB]
      exact ndc_dg (by rw [kz_T17.1]; exact ht)
    obtain ⟨X, hX⟩ : ∃ X, X = if i ≤ A ∧ j ≤ B then A - i else 5 := ⟨_, rfl⟩
    obtain ⟨Y, hY⟩ : ∃ Y, Y = B - j := ⟨_, rfl⟩
    have hh := zfor_hitD (s := E) (D := 5) (so := zm_pilesLocal_g_L25 i j) (si := zm_pilesLocal_g_L34 i j) (fun Z : zS2 => Z 12 t) (fun Z => (∀ a q : Nat, a ≠ 12 → Z a q = S a q) ∧ (∀ q : Nat, q < 153 → 0 ≤ Z 12 q ∧ Z 12 q < p)) ⟨fun a q ha => by rw [e0, if_neg (by omega)], fun q hq => by rw [e0, if_pos (by omega)]; omega⟩ (X := X) (Y := Y) (v := c (5 * X + Y)) (fun a x ha => by
      unfold zm_pilesLocal_g_L25
      dsimp only
      rw [zlet_v, show (4 - (a : Int) + 1 - 0).toNat = 5 - a by omega]) (fun a b Z hab hZ => by
      have es : zm_pilesLocal_g_L34 i j a b Z = if 16 < i + j + a + b then Z else za Z 12 (ncol (i + a) (j + b)) (c (5 * a + b)) := by
        unfold zm_pilesLocal_g_L34
        dsimp only
        by_cases q : 16 < i + j + a + b
        · rw [if_pos (show (16 : Int) < ((i : Int) + (j : Int)) + (a : Int) + (b : Int) by omega), if_pos q]
        · rw [if_neg (show ¬ (16 : Int) < ((i : Int) + (j : Int)) + (a : Int) + (b : Int) by omega), if_neg q, zlet_v, zlet_v, show (i : Int) + (a : Int) = ((i + a : Nat) : Int) by omega, show (j : Int) + (b : Int) = ((j + b : Nat) : Int) by omega, zm_long_n, Int.toNat_natCast, show (17 * (a : Int) + (b : Int)).toNat = 17 * a + b by omega, hZ.1 17 _ (by decide), hc a b (by omega)]
      rw [es]
      by_cases q : 16 < i + j + a + b
      · rw [if_pos q]
        refine ⟨hZ, fun _ => rfl, fun e _ => ?_⟩
        exfalso
        by_cases q2 : i ≤ A ∧ j ≤ B
        · rw [if_pos q2] at hX
          omega
        · rw [if_neg q2] at hX
          omega
      · rw [if_neg q]
        have rg := hcan (5 * a + b)
        refine ⟨⟨fun x q hx => by rw [za_ne (by omega)]; exact hZ.1 x q hx, fun q hq => ?_⟩, fun hne => ?_, fun e _ => ?_⟩
        · by_cases z : q = ncol (i + a) (j + b)
          · rw [z, za_same]; exact rg
          · rw [za_ne (by omega)]; exact hZ.2 q hq
        · show za Z 12 (ncol (i + a) (j + b)) (c (5 * a + b)) 12 t = Z 12 t
          refine za_ne (fun z => ?_)
          obtain ⟨z1, z2⟩ := ncol_inj (et.symm.trans z.2)
          rw [if_pos (by omega)] at hX
          exact hne ⟨by omega, by omega⟩
        · show za Z 12 (ncol (i + a) (j + b)) (c (5 * a + b)) 12 t = c (5 * X + Y)
          by_cases q : i ≤ A ∧ j ≤ B
          · rw [if_pos q] at hX
            have e1 : i + a = A := by omega
            have e2 : j + b = B := by omega
            rw [e1, e2, ← et, za_same, e.1, e.2]
          · rw [if_neg q] at hX
            omega)
    refine ⟨hh.1, ?_⟩
    have h2 := hh.2
    have h3 : (zfor (zm_pilesLocal_g_L25 i j) 0 E 5) 12 t = if X + Y < 5 then c (5 * X + Y) else E 12 t := h2
    rw [h3]
    unfold kvec
    rw [kc_t_mul, ← hA, ← hB]
    by_cases q : i ≤ A ∧ j ≤ B
    · rw [if_pos q] at hX ⊢
      rw [hX, hY, ka_om]
      by_cases y : A - i + (B - j) < 5
      · rw [if_pos y, zq_t (by omega)]
      · rw [if_neg y, e0, if_pos (by omega), h.z, zq_f (by omega)]
    · rw [if_neg q] at hX ⊢
      rw [if_neg (by omega), e0, if_pos (by omega), h.z]
  obtain ⟨V, hV⟩ : ∃ V, V = zfor (zm_pilesLocal_g_L25 i j) 0 E 5 := ⟨_, rfl⟩
  rw [← hV] at lay
  have vo := (lay 0 (by decide)).1.1
  have vc := (lay 0 (by decide)).1.2
  have vv : kp_v φ 153 V = kp_w 153 (kc_mul (kc_t 1 i j) (zq φ c)) := funext fun t => by
    unfold kp_v kp_w
    by_cases q : t < 153
    · rw [if_pos q, if_pos q, (lay t q).2]
    · rw [if_neg q, if_neg q]
  obtain ⟨z, T, t1, t2, t3⟩ := kp_I.step h hpr (S := V) hG (by decide) (hI.same (fun a q hq => vo a q (by omega))) vc (by rw [vv]; exact hv)
  rw [vv] at t2
  have eF : ∃ x : Int, zm_pilesLocal_g_L10 i j S = za T 0 26 x := by
    have e1 : zm_pilesLocal_g_L10 i j S = if z = 0 then za T 0 26 ((V 0 26) + 0) else za T 0 26 ((V 0 26) + 1) := by
      unfold zm_pilesLocal_g_L10
      dsimp only
      rw [zlet_v, ← hE, zlet_v, show (4 + 1 - 0 : Int).toNat = 5 by decide, ← hV, t1]
      simp only [zlet_v]
    rw [e1]
    by_cases q : z = 0
    · exact ⟨_, by rw [if_pos q]⟩
    · exact ⟨_, by rw [if_neg q]⟩
  obtain ⟨x, hx⟩ := eF
  refine ⟨za T 0 26 x, hx, t2.same (fun a q hq => za_ne (by omega)), fun a q h1 h2 h3 h4 => ?_⟩
  rw [za_ne (by omega), t3 a q h1 h2 h3 (by omega), vo a q h3]
/-- all lines of a LOCAL one -/
theorem kp_loc_g {K : Type} [Lean.Grind.CommRing K] {p : Int} {φ : Int → K} (h : zKp K p φ) (hpr : zPr p) {S : zS2} {G H : (Nat → K) → Prop} {c : Nat → Int} (hG : kp_C G) (hI : kp_I φ p 153 G H S) (hc : ∀ a b : Nat, a + b ≤ 4 → S 17 (17 * a + b) = c (5 * a + b)) (hcan : zcan p c) (hv : ∀ i j, i + j ≤ 16 → G (kp_w 153 (kc_mul (kc_t 1 i j) (zq φ c)))) : ∃ T, zm_pilesLocal_g S = T ∧ kp_I φ p 153 G (fun w => H w ∨ ∃ i j, i + j ≤ 16 ∧ w = kp_w 153 (kc_mul (kc_t 1 i j) (zq φ c))) T ∧ ∀ a i : Nat, a ≠ 10 → a ≠ 11 → a ≠ 12 → ¬ (a = 0 ∧ (i = 23 ∨ i = 26)) → T a i = S a i := by
  have e : zm_pilesLocal_g S = zfor zm_pilesLocal_g_L2 0 S 17 := by
    unfold zm_pilesLocal_g
    rw [zlet_v]
    rfl
  rw [e]
  have lp := zfor_ix (step := zm_pilesLocal_g_L2) (a := 0) (s := S) (fun (n : Nat) (X : zS2) => kp_I φ p 153 G (fun w => H w ∨ ∃ i j, i < n ∧ i + j ≤ 16 ∧ w = kp_w 153 (kc_mul (kc_t 1 i j) (zq φ c))) X ∧ ∀ a i : Nat, a ≠ 10 → a ≠ 11 → a ≠ 12 → ¬ (a = 0 ∧ (i = 23 ∨ i = 26)) → X a i = S a i) ⟨hI.mono (fun v hv => by
      rcases hv with hv | ⟨i, j, q, _⟩
      · exact hv
      · exact absurd q (Nat.not_lt_zero _)), fun _ _ _ _ _ _ => rfl⟩ 17 (fun i X hi hX => by
    rw [show 0 + (i : Int) = (i : Int) by omega]
    have e2 : zm_pilesLocal_g_L2 i X = zfor (zm_pilesLocal_g_L10 i) 0 X (17 - i) := by
      unfold zm_pilesLocal_g_L2
      dsimp only
      rw [zlet_v, show (16 - (i : Int) + 1 - 0).toNat = 17 - i by omega]
    rw [e2]
    have lp2 := zfor_ix (step := zm_pilesLocal_g_L10 i) (a := 0) (s := X) (fun (n : Nat) (X : zS2) => kp_I φ p 153 G (fun w => H w ∨ ∃ i' j, (i' < i ∨ (i' = i ∧ j < n)) ∧ i' + j ≤ 16 ∧ w = kp_w 153 (kc_mul (kc_t 1 i' j) (zq φ c))) X ∧ ∀ a i : Nat, a ≠ 10 → a ≠ 11 → a ≠ 12 → ¬ (a = 0 ∧ (i = 23 ∨ i = 26)) → X a i = S a i) ⟨hX.1.mono (fun v hv => by
        rcases hv with hv | ⟨i', j, q, q2⟩
        · exact Or.inl hv
        · exact Or.inr ⟨i', j, by omega, q2⟩), hX.2⟩ (17 - i) (fun j Y hj hY => by
      rw [show 0 + (j : Int) = (j : Int) by omega]
      obtain ⟨T, t1, t2, t3⟩ := kp_loc1_g h hpr (i := i) (j := j) (c := c) hG (by omega) hY.1 (fun a b hab => by
        rw [hY.2 17 _ (by decide) (by decide) (by decide) (by omega)]
        exact hc a b hab) hcan (hv i j (by omega))
      rw [t1]
      refine ⟨t2.mono (fun v hv => ?_), fun a q h1 h2 h3 h4 => by rw [t3 a q h1 h2 h3 h4, hY.2 a q h1 h2 h3 h4]⟩
      rcases hv with hv | ⟨i', j', q, q2, q3⟩
      · exact Or.inl (Or.inl hv)
      · by_cases z : i' = i ∧ j' = j
        · rw [z.1, z.2] at q3
          exact Or.inr q3
        · exact Or.inl (Or.inr ⟨i', j', by omega, q2, q3⟩))
    refine ⟨lp2.1.mono (fun v hv => ?_), lp2.2⟩
    rcases hv with hv | ⟨i', j, q, q2⟩
    · exact Or.inl hv
    · exact Or.inr ⟨i', j, by omega, q2⟩)
  refine ⟨_, rfl, lp.1.mono (fun v hv => ?_), lp.2⟩
  rcases hv with hv | ⟨i, j, q, q2⟩
  · exact Or.inl hv
  · exact Or.inr ⟨i, j, by omega, q, q2⟩
theorem kz_V_C {K : Type} [Lean.Grind.CommRing K] (F G : Nat → Nat → K) : kp_C (kz_V F G) := ⟨⟨fun _ _ => 0, fun _ _ => 0, funext fun k => by
  rw [show (fun i j => kc_mul (fun _ _ => 0) F i j + kc_mul (fun _ _ => 0) G i j) = fun _ _ => (0 : K) from funext fun i => funext fun j => by rw [kc_zmul, kc_zmul, ka_az], kp_wz]⟩, fun v w c ⟨A, B, e⟩ ⟨A', B', e'⟩ => ⟨fun i j => A i j + c * A' i j, fun i j => B i j + c * B' i j, funext fun k => by
  rw [e, e', kc_mul_ac, kc_mul_ac]
  show kp_w 153 (fun i j => kc_mul A F i j + kc_mul B G i j) k + c * kp_w 153 (fun i j => kc_mul A' F i j + kc_mul B' G i j) k = _
  rw [← kp_wac]
  exact congrFun (congrArg (kp_w 153) (funext fun i => funext fun j => kr_4 _ _ _ _ _)) k⟩⟩
/-- what all TERMS' multiples make -/
theorem kz_gen {K : Type} [Lean.Grind.CommRing K] {F G : Nat → Nat → K} {x : Nat → Nat → K} {n : Nat} (hF : ∀ i j, i + j ≤ 16 → kl_sp x n (kp_w 153 (kc_mul (kc_t 1 i j) F))) (hG : ∀ i j, i + j ≤ 16 → kl_sp x n (kp_w 153 (kc_mul (kc_t 1 i j) G))) {v : Nat → K} (hv : kz_V F G v) : kl_sp x n v := by
  have one : ∀ (A F : Nat → Nat → K), (∀ i j, i + j ≤ 16 → kl_sp x n (kp_w 153 (kc_mul (kc_t 1 i j) F))) → kl_sp x n (kp_w 153 (kc_mul A F)) := fun A F hF => by
    obtain ⟨D, hD⟩ : ∃ D : Nat → Nat → K, D = fun i j => if ncol i j < 153 then A i j else 0 := ⟨_, rfl⟩
    have s := kl_sp_sum (x := x) (n := n) (fun s => A (ndc s).1 (ndc s).2) (fun s => kp_w 153 (kc_mul (kc_t 1 (ndc s).1 (ndc s).2) F)) 153 (fun s hs => hF _ _ (by
      have := ndc_dg (k := s) (d := 17) (by rw [kz_T17.1]; exact hs)
      omega))
    refine (congrArg (kl_sp x n) (funext fun k => ?_)).mp s
    rw [kz_wsum]
    refine congrFun (kz_w (fun i j hij => ?_)) k
    rw [kz_lo (d := 17) (F := A) (F' := D) (fun a b hab => by
      have := ncol_lt hab
      rw [kz_T17.1] at this
      rw [hD]
      exact (if_pos this).symm) (fun _ _ _ => rfl) i j hij, kc_sum_t (P := D) (N := 153) F (fun a b hab => by rw [hD]; exact if_neg (by omega))]
    refine ka_s_congr _ (fun s hs => ?_)
    rw [hD]
    show _ = (if ncol (ndc s).1 (ndc s).2 < 153 then A (ndc s).1 (ndc s).2 else 0) * _
    rw [ncol_ndc, if_pos hs]
  obtain ⟨A, B, e⟩ := hv
  have s := kl_sp_add (one A F hF) (one B G hG) 1
  refine (congrArg (kl_sp x n) (funext fun k => ?_)).mp s
  rw [e, ← kp_wac]
  exact congrFun (congrArg (kp_w 153) (funext fun i => funext fun j => by rw [ka_om])) k
theorem zfact_22 (L : Nat) : zlK_22 zBm L := by
  intro i M S a b pt _ _ hR hC hI _ _ _
  have hB := hR.1.2.2.1
  have hX := hR.2
  have cn := hC.cn
  have hp := zPr_2 hX.1
  have no : ∀ c : Int × zCt, ∀ m : Int × zS2, ∀ N, zVE N M → c = (-1, N) → m = (-1, S) → c.1 = m.1 ∧ zBm (i + 8) c.2 m.2 := fun c m N hN e1 e2 => by
    rw [e1, e2]
    exact ⟨rfl, zBm_q hR hC hN zFm.rf⟩
  by_cases h : (0 ≤ a ∧ a < M.1 0 4) ∧ (0 ≤ b ∧ b < M.1 0 4)
  · by_cases q : zpt pt (M.1 0 3)
    · obtain ⟨K, iK, φ, hK⟩ := zKp_ex hX.1
      have cx : zcan (M.1 0 3) (M.2.1 a.toNat) := hC.cv a.toNat (by omega)
      have cy : zcan (M.1 0 3) (M.2.1 b.toNat) := hC.cv b.toNat (by omega)
      have tx : 0 < ztop (M.2.1 a.toNat) := (hB.2.2 a.toNat (by omega)).2.2
      have ca : zcan (M.1 0 3) (zLk M a pt) := zLk_can (by omega)
      have cb : zcan (M.1 0 3) (zLk M b pt) := zLk_can (by omega)
      obtain ⟨r, r1, r2⟩ := ksize (e := zLk M b pt) hK hp.1 ca (zLk_n0 hX (by omega) cx)
      -- the model
      obtain ⟨f1, f2, f3⟩ := zm_long_f hB hX cn.2 h.1 q
      obtain ⟨S1, hS1⟩ : ∃ S1, S1 = zm_laysLong_f S a pt := ⟨_, rfl⟩
      rw [← hS1] at f1 f2 f3
      have hBf := zBs_q hB cn.2 zVE.rf f1
      obtain ⟨g1, g2, g3⟩ := zm_long_g hBf hX cn.2 h.2 q
      obtain ⟨S2, hS2⟩ : ∃ S2, S2 = zm_laysLong_g S1 b pt := ⟨_, rfl⟩
      rw [← hS2] at g1 g2 g3
      have GC := kz_V_C (zq φ (zLk M a pt)) (zq φ (zLk M b pt))
      obtain ⟨b1, b2⟩ := kp_begin (φ := φ) (p := M.1 0 3) (W := 153) (S := S2) (kz_V (zq φ (zLk M a pt)) (zq φ (zLk M b pt))) (by rw [(f1.tr g1).p, hB.1])
      obtain ⟨S3, hS3⟩ : ∃ S3, S3 = zm_beginsPile S2 (153 : Nat) := ⟨_, rfl⟩
      rw [← hS3] at b1 b2
      have at16 : ∀ x y : Nat, x + y ≤ 4 → S3 16 (17 * x + y) = zLk M a pt (5 * x + y) := fun x y hxy => by
        rw [b2 16 _ (by decide) (by omega), g3 16 _ (by decide) (by decide), f2 _ (by omega), zld_sp _ (by omega) (by omega), if_pos hxy]
      have at17 : ∀ x y : Nat, x + y ≤ 4 → S3 17 (17 * x + y) = zLk M b pt (5 * x + y) := fun x y hxy => by
        rw [b2 17 _ (by decide) (by omega), g2 _ (by omega), zld_sp _ (by omega) (by omega), if_pos hxy]
      obtain ⟨S4, c1, c2, c3⟩ := kp_loc_f hK hX.1 GC b1 at16 ca (fun x y _ => ⟨kc_t 1 x y, fun _ _ => 0, congrArg (kp_w 153) (funext fun u => funext fun v => by rw [kc_zmul, ka_az])⟩)
      obtain ⟨S5, d1, d2, d3⟩ := kp_loc_g hK hX.1 GC c2 (fun x y hxy => by
        rw [c3 17 _ (by decide) (by decide) (by decide) (by omega)]
        exact at17 x y hxy) cb (fun x y _ => ⟨fun _ _ => 0, kc_t 1 x y, congrArg (kp_w 153) (funext fun u => funext fun v => by rw [kc_zmul, ka_za])⟩)
      obtain ⟨n, n1, n2⟩ := d2.dim (fun v hv n hw => kz_gen (fun x y hxy => hw _ (Or.inl (Or.inr ⟨x, y, hxy, rfl⟩))) (fun x y hxy => hw _ (Or.inr ⟨x, y, hxy, rfl⟩)) hv)
      have nr : n = r := kl_dim_u hK.F n2 r1
      have em : zm_size S a b pt = (153 - (r : Int), S5) := by
        unfold zm_size
        rw [zm_askedT hB, bI_t ⟨h, q⟩]
        simp only [zlet_v]
        rw [if_neg (by decide), ← hS1, ← hS2, show (153 : Int) = ((153 : Nat) : Int) from rfl, ← hS3, c1, d1, n1, nr]
      -- the class
      obtain ⟨⟨k1, k2, k3⟩, _⟩ := zgo_rng (M := M) (n := pt) (p := M.1 0 3) hC.p (by rw [bI_t q]; decide)
      obtain ⟨Gm, hGm⟩ : ∃ Gm, Gm = zw_go M pt (M.1 0 3) := ⟨_, rfl⟩
      rw [← hGm] at k1 k2 k3
      have vG : zVE Gm M := by rw [hGm]; exact zv_go
      obtain ⟨A, hA⟩ : ∃ A, A = zw_look1 Gm (Gm.2.1 a.toNat) (Gm.1 0 3) := ⟨_, rfl⟩
      have vA : zVE A M := by rw [hA]; exact zv_look1.tr vG
      obtain ⟨B, hBd⟩ : ∃ B, B = zw_look2 A (A.2.1 b.toNat) (A.1 0 3) := ⟨_, rfl⟩
      have vB : zVE B M := by rw [hBd]; exact zv_look2.tr vA
      have A20 : A.1 20 = zLk M a pt := by
        rw [hA]
        unfold zw_look1
        dsimp only
        rw [zset_self, k1, k2, k3, vG.1, vG.p]
        rfl
      have B20 : B.1 20 = zLk M a pt := by
        rw [← A20, hBd]
        unfold zw_look2
        dsimp only
        rw [zset_ne _ _ (by decide), za_row (by decide)]
      have a1 : ∀ k i : Nat, k ≠ 20 → ¬ (k = 0 ∧ i = 13) → A.1 k i = Gm.1 k i := fun k i h1 h2 => by rw [hA]; exact zw_look1_o h1 h2
      have B22 : B.1 22 = zLk M b pt := by
        rw [hBd]
        unfold zw_look2
        dsimp only
        rw [zset_self, a1 0 10 (by decide) (by decide), a1 0 11 (by decide) (by decide), a1 0 12 (by decide) (by decide), k1, k2, k3, vA.1, vA.p]
        rfl
      have ec : zc_size M a b pt = (153 - (r : Int), B) := by
        unfold zc_size
        rw [if_pos (show 0 ≤ a ∧ a < M.1 0 4 ∧ a < 6 by omega), if_pos (show 0 ≤ b ∧ b < M.1 0 4 ∧ b < 6 by omega), bI_t q]
        simp only [zlet_v]
        rw [if_neg (by decide), ← hGm, ← hA, ← hBd, B20, B22, vB.p, r2]
      rw [ec, em]
      refine ⟨rfl, zBm_q hR hC vB (fun x y h1 h2 h3 => ?_)⟩
      show S5 x y = S x y
      rw [d3 x y (by omega) (by omega) (by omega) (by omega), c3 x y (by omega) (by omega) (by omega) (by omega), b2 x y (by omega) (by omega)]
      exact (f1.tr g1) x y h1 h2 h3
    · refine no _ _ (zw_go M pt (M.1 0 3)) zv_go ?_ ?_
      · unfold zc_size
        rw [if_pos (show 0 ≤ a ∧ a < M.1 0 4 ∧ a < 6 by omega), if_pos (show 0 ≤ b ∧ b < M.1 0 4 ∧ b < 6 by omega), bI_f q]
        simp only [zlet_v]
        rw [if_pos trivial]
      · unfold zm_size
        rw [zm_askedT hB, bI_f (fun z => q z.2), zlet_v, if_pos rfl]
  · refine no _ _ M zVE.rf ?_ ?_
    · unfold zc_size
      by_cases q : 0 ≤ a ∧ a < M.1 0 4
      · rw [if_pos (show 0 ≤ a ∧ a < M.1 0 4 ∧ a < 6 by omega), if_neg (fun z => h ⟨q, by omega⟩)]
      · rw [if_neg (show ¬ (0 ≤ a ∧ a < M.1 0 4 ∧ a < 6) by omega)]
        split <;> rfl
    · unfold zm_size
      rw [zm_askedT hB, bI_f (fun z => h z.1), zlet_v, if_pos rfl]
end ZIf
