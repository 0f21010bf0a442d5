section ZGl
theorem kp_I.mono {K : Type} [Lean.Grind.CommRing K] {φ : Int → K} {p : Int} {W : Nat} {G H H2 : (Nat → K) → Prop} {S : zS2} (h : kp_I φ p W G H S) (hh : ∀ v, H2 v → H v) : kp_I φ p W G H2 S := by
  obtain ⟨n, h1, h2, h3⟩ := h
  exact ⟨n, h1, h2, fun v hv => h3 v (hh v hv)⟩
/-- all lines of a form -/
theorem kp_form {K : Type} [Lean.Grind.CommRing K] {p : Int} {φ : Int → K} (h : zKp K p φ) (hpr : zPr p) {W dd m cv : Nat} {S : zS2} {G H : (Nat → K) → Prop} {c : Nat → Int} (hG : kp_C G) (hWd : W = nT (dd + 1)) (hW : W ≤ 325) (m4 : m ≤ 4) (hI : kp_I φ p W G H S) (dm : zm_degreeOf S cv = m) (hc : ∀ i j : Nat, i + j ≤ 4 → zm_cell S cv i j = c (5 * i + j)) (hcan : ∀ i j : Nat, i + j ≤ 4 → 0 ≤ c (5 * i + j) ∧ c (5 * i + j) < p) (hm : ∀ a b, m < a + b → zq φ c a b = 0) (hv : ∀ i j, i + j + m ≤ dd → G (kp_w W (kc_mul (kc_t 1 i j) (zq φ c)))) : ∃ T, zm_pilesForm S cv dd = T ∧ kp_I φ p W G (fun w => H w ∨ ∃ i j, i + j + m ≤ dd ∧ w = kp_w W (kc_mul (kc_t 1 i j) (zq φ c))) T ∧ ∀ a i : Nat, a ≠ 10 → a ≠ 11 → a ≠ 12 → ¬ (a = 0 ∧ (i = 23 ∨ i = 26)) → T a i = S a i := by
  have e : zm_pilesForm S cv dd = zfor (zm_pilesForm_L9 cv dd m) 0 S (dd + 1 - m) := by
    unfold zm_pilesForm
    rw [dm, zlet_v, zlet_v, show ((dd : Int) - (m : Int) + 1 - 0).toNat = dd + 1 - m by omega]
  rw [e]
  have lp : (fun (n : Nat) (X : zS2) => kp_I φ p W G (fun w => H w ∨ ∃ i j, i < n ∧ i + j + m ≤ dd ∧ w = kp_w W (kc_mul (kc_t 1 i j) (zq φ c))) X ∧ ∀ a i : Nat, a ≠ 10 → a ≠ 11 → a ≠ 12 → ¬ (a = 0 ∧ (i = 23 ∨ i = 26)) → X a i = S a i) (dd + 1 - m) (zfor (zm_pilesForm_L9 cv dd m) 0 S (dd + 1 - m)) := by
    refine zfor_ix (I := fun (n : Nat) (X : zS2) => kp_I φ p W G (fun w => H w ∨ ∃ i j, i < n ∧ i + j + m ≤ dd ∧ w = kp_w W (kc_mul (kc_t 1 i j) (zq φ c))) X ∧ ∀ a i : Nat, a ≠ 10 → a ≠ 11 → a ≠ 12 → ¬ (a = 0 ∧ (i = 23 ∨ i = 26)) → X a i = S a i) ⟨hI.mono (fun v hv => by
      rcases hv with hv | ⟨i, j, q, _⟩
      · exact hv
      · exact absurd q (Nat.not_lt_zero _)), fun _ _ _ _ _ _ => rfl⟩ (dd + 1 - m) (fun i X hi hX => ?_)
    rw [show 0 + (i : Int) = (i : Int) by omega]
    have e2 : zm_pilesForm_L9 cv dd m i X = zfor (zm_pilesForm_L20 cv m i) 0 X (dd + 1 - m - i) := by
      unfold zm_pilesForm_L9
      dsimp only
      rw [zlet_v, show ((dd : Int) - (m : Int) - (i : Int) + 1 - 0).toNat = dd + 1 - m - i by omega]
    rw [e2]
    have lp2 : (fun (n : Nat) (X : zS2) => kp_I φ p W G (fun w => H w ∨ ∃ i' j, (i' < i ∨ (i' = i ∧ j < n)) ∧ i' + j + m ≤ dd ∧ w = kp_w W (kc_mul (kc_t 1 i' j) (zq φ c))) X ∧ ∀ a i : Nat, a ≠ 10 → a ≠ 11 → a ≠ 12 → ¬ (a = 0 ∧ (i = 23 ∨ i = 26)) → X a i = S a i) (dd + 1 - m - i) (zfor (zm_pilesForm_L20 cv m i) 0 X (dd + 1 - m - i)) := by
      refine zfor_ix (I := fun (n : Nat) (X : zS2) => kp_I φ p W G (fun w => H w ∨ ∃ i' j, (i' < i ∨ (i' = i ∧ j < n)) ∧ i' + j + m ≤ dd ∧ w = kp_w W (kc_mul (kc_t 1 i' j) (zq φ c))) X ∧ ∀ a i : Nat, a ≠ 10 → a ≠ 11 → a ≠ 12 → ¬ (a = 0 ∧ (i = 23 ∨ i = 26)) → X a i = S a i) ⟨hX.1.mono (fun v hv => by
        rcases hv with hv | ⟨i', j, q, q2⟩
        · exact Or.inl hv
        · exact Or.inr ⟨i', j, by omega, q2⟩), hX.2⟩ (dd + 1 - m - i) (fun j Y hj hY => ?_)
      rw [show 0 + (j : Int) = (j : Int) by omega]
      obtain ⟨T, t1, t2, t3⟩ := kp_form1 h hpr (dd := dd) (i := i) (j := j) (cv := cv) (c := c) hG hWd hW (by omega) m4 hY.1 (fun a b hab => by
        rw [← hc a b hab, zM_cell, zM_cell, hY.2 3 _ (by decide) (by decide) (by decide) (by omega)]) hcan hm (hv i j (by omega))
      rw [t1]
      refine ⟨t2.mono (fun v hv => ?_), fun a q h1 h2 h3 h4 => by rw [t3 a q h1 h2 h3 h4, hY.2 a q h1 h2 h3 h4]⟩
      rcases hv with hv | ⟨i', j', q, q2, q3⟩
      · exact Or.inl (Or.inl hv)
      · by_cases z : i' = i ∧ j' = j
        · rw [z.1, z.2] at q3
          exact Or.inr q3
        · exact Or.inl (Or.inr ⟨i', j', by omega, q2, q3⟩)
    refine ⟨lp2.1.mono (fun v hv => ?_), lp2.2⟩
    rcases hv with hv | ⟨i', j, q, q2⟩
    · exact Or.inl hv
    · exact Or.inr ⟨i', j, by omega, q2⟩
  refine ⟨_, rfl, lp.1.mono (fun v hv => ?_), lp.2⟩
  rcases hv with hv | ⟨i, j, q, q2⟩
  · exact Or.inl hv
  · exact Or.inr ⟨i, j, by omega, q, q2⟩
/-- a pile begins -/
theorem kp_begin {K : Type} [Lean.Grind.CommRing K] {p : Int} {φ : Int → K} {W : Nat} {S : zS2} (G : (Nat → K) → Prop) (hS : S 0 10 = p) : kp_I φ p W G (fun _ => False) (zm_beginsPile S W) ∧ ∀ a i : Nat, a ≠ 11 → ¬ (a = 0 ∧ (i = 23 ∨ i = 24)) → (zm_beginsPile S W) a i = S a i := by
  obtain ⟨S1, hS1⟩ : ∃ S1, S1 = za (za S 0 23 0) 0 24 (W : Int) := ⟨_, rfl⟩
  have e : zm_beginsPile S W = zfor zm_beginsPile_L12 0 S1 W := by
    unfold zm_beginsPile
    rw [zlet_v, zlet_v, zlet_v, ← hS1, show ((W : Int) - 1 + 1 - 0).toNat = W by omega]
  have f := zfor_fill (S := S1) (step := zm_beginsPile_L12) (r := 11) (base := 0) (g := fun _ => -1) W (fun k x hk hx => by
    unfold zm_beginsPile_L12
    dsimp only
    rw [zlet_v, show (0 + (k : Int)).toNat = 0 + k by omega])
  rw [e]
  obtain ⟨T, hT⟩ : ∃ T, T = zfor zm_beginsPile_L12 0 S1 W := ⟨_, rfl⟩
  rw [← hT] at f ⊢
  refine ⟨⟨0, ⟨?_, ?_, ?_, fun c hc => Or.inl ?_, fun r hr => absurd hr (Nat.not_lt_zero _), fun r k hr => absurd hr (Nat.not_lt_zero _), fun a ha t ht => absurd ht (Nat.not_lt_zero _)⟩, fun r hr => absurd hr (Nat.not_lt_zero _), fun v hv => hv.elim⟩, fun a i h1 h2 => ?_⟩
  · rw [f, if_neg (by omega), hS1, za_ne (by omega), za_ne (by omega), hS]
  · rw [f, if_neg (by omega), hS1, za_same]
  · rw [f, if_neg (by omega), hS1, za_ne (by omega), za_same]; rfl
  · rw [f, if_pos (by omega)]
  · rw [f, if_neg (by omega), hS1, za_ne (by omega), za_ne (by omega)]
end ZGl
