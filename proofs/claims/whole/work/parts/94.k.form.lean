section ZGk
theorem zfor_hitD {σ : Type} {s : σ} {D : Nat} {so : Int → σ → σ} {si : Int → Int → σ → σ} (get : σ → Int) (P : σ → Prop) (hP : P s) {X Y : Nat} {v : Int} (ho : ∀ (i : Nat) (x : σ), i < D → so i x = zfor (si i) 0 x (D - i)) (hi : ∀ (i j : Nat) (x : σ), i + j < D → P x → P (si i j x) ∧ (¬ (i = X ∧ j = Y) → get (si i j x) = get x) ∧ (i = X ∧ j = Y → get x = get s → get (si i j x) = v)) : P (zfor so 0 s D) ∧ get (zfor so 0 s D) = if X + Y < D then v else get s := by
  have h : (fun (n : Nat) (x : σ) => P x ∧ get x = if X < n ∧ X + Y < D then v else get s) D (zfor so 0 s D) := by
    refine zfor_ix (I := fun (n : Nat) (x : σ) => P x ∧ get x = if X < n ∧ X + Y < D then v else get s) ⟨hP, by rw [if_neg (by omega)]⟩ D (fun i x hi5 hx => ?_)
    rw [show 0 + (i : Int) = (i : Int) by omega, ho i x hi5]
    have h2 : (fun (n : Nat) (y : σ) => P y ∧ get y = if (X < i ∧ X + Y < D) ∨ (X = i ∧ Y < n ∧ X + Y < D) then v else get s) (D - i) (zfor (si i) 0 x (D - i)) := by
      refine zfor_ix (I := fun (n : Nat) (y : σ) => P y ∧ get y = if (X < i ∧ X + Y < D) ∨ (X = i ∧ Y < n ∧ X + Y < D) then v else get s) ⟨hx.1, ?_⟩ (D - i) (fun j y hj hy => ?_)
      · rw [hx.2]
        by_cases q : X < i ∧ X + Y < D
        · rw [if_pos q, if_pos (Or.inl q)]
        · rw [if_neg q, if_neg (by omega)]
      · rw [show 0 + (j : Int) = (j : Int) by omega]
        obtain ⟨a1, a2, a3⟩ := hi i j y (by omega) hy.1
        refine ⟨a1, ?_⟩
        by_cases e : i = X ∧ j = Y
        · have e0 := hy.2
          rw [if_neg (by omega)] at e0
          rw [a3 e e0, if_pos (by omega)]
        · rw [a2 e, hy.2]
          by_cases q : (X < i ∧ X + Y < D) ∨ (X = i ∧ Y < j ∧ X + Y < D)
          · rw [if_pos q, if_pos (by omega)]
          · rw [if_neg q, if_neg (by omega)]
    refine ⟨h2.1, ?_⟩
    rw [h2.2]
    by_cases q : (X < i ∧ X + Y < D) ∨ (X = i ∧ Y < D - i ∧ X + Y < D)
    · rw [if_pos q, if_pos (by omega)]
    · rw [if_neg q, if_neg (by omega)]
  refine ⟨h.1, ?_⟩
  rw [h.2]
  by_cases q : X + Y < D
  · rw [if_pos q, if_pos (by omega)]
  · rw [if_neg q, if_neg (by omega)]
theorem zm_long_n (i j : Nat) : zm_longAt i j = (ncol i j : Int) := by
  unfold zm_longAt
  rw [Int.tdiv_eq_ediv_of_nonneg (Int.mul_nonneg (by omega) (by omega))]
  exact zcol_n i j
/-- a POLYNOMIAL times a TERM as a line -/
def kp_w {K : Type} [Lean.Grind.CommRing K] (W : Nat) (F : Nat → Nat → K) : Nat → K := fun k => if k < W then kvec F k else 0
/-- one line of a form -/
theorem kp_form1 {K : Type} [Lean.Grind.CommRing K] {p : Int} {φ : Int → K} (h : zKp K p φ) (hpr : zPr p) {W dd m i j cv : Nat} {S : zS2} {G H : (Nat → K) → Prop} {c : Nat → Int} (hG : kp_C G) (hWd : W = nT (dd + 1)) (hW : W ≤ 325) (hij : i + j + m ≤ dd) (m4 : m ≤ 4) (hI : kp_I φ p W G H S) (hc : ∀ i j : Nat, i + j ≤ 4 → zm_cell S cv i j = c (5 * i + j)) (hcan : ∀ i j : Nat, i + j ≤ 4 → 0 ≤ c (5 * i + j) ∧ c (5 * i + j) < p) (hm : ∀ a b, m < a + b → zq φ c a b = 0) (hv : G (kp_w W (kc_mul (kc_t 1 i j) (zq φ c)))) : ∃ T, zm_pilesForm_L20 cv m i j S = T ∧ kp_I φ p W G (fun w => H w ∨ w = kp_w W (kc_mul (kc_t 1 i j) (zq φ c))) T ∧ ∀ a i : Nat, a ≠ 10 → a ≠ 11 → a ≠ 12 → ¬ (a = 0 ∧ (i = 23 ∨ i = 26)) → T a i = S a i := by
  have hp := zPr_2 hpr
  have s24 : S 0 24 = W := by
    obtain ⟨n, hn, _⟩ := hI
    exact hn.2.1
  -- the vector empty
  have e0 : ∀ a i : Nat, (zm_emptiesVector S) a i = if a = 12 ∧ 0 ≤ i ∧ i < 0 + W then 0 else S a i := by
    have e : zm_emptiesVector S = zfor zm_emptiesVector_L2 0 S W := by
      unfold zm_emptiesVector
      rw [zlet_v, s24, show ((W : Int) - 1 + 1 - 0).toNat = W by omega]
    rw [e]
    exact zfor_fill (g := fun _ => 0) W (fun k x hk hx => by
      unfold zm_emptiesVector_L2
      dsimp only
      rw [zlet_v, show (0 + (k : Int)).toNat = 0 + k by omega])
  obtain ⟨E, hE⟩ : ∃ E, E = zm_emptiesVector S := ⟨_, rfl⟩
  rw [← hE] at e0
  -- the vector laid
  have lay : ∀ t : Nat, t < W → ((∀ a q : Nat, a ≠ 12 → (zfor (zm_pilesForm_L38 cv m i j) 0 E (m + 1)) a q = S a q) ∧ (∀ q : Nat, q < W → 0 ≤ (zfor (zm_pilesForm_L38 cv m i j) 0 E (m + 1)) 12 q ∧ (zfor (zm_pilesForm_L38 cv m i j) 0 E (m + 1)) 12 q < p)) ∧ φ ((zfor (zm_pilesForm_L38 cv m i j) 0 E (m + 1)) 12 t) = kvec (kc_mul (kc_t 1 i j) (zq φ c)) t := fun t ht => by
    obtain ⟨A, hA⟩ : ∃ A, A = (ndc t).1 := ⟨_, rfl⟩
    obtain ⟨B, hB⟩ : ∃ B, B = (ndc t).2 := ⟨_, rfl⟩
    have et : t = ncol A B := by rw [hA, hB, ncol_ndc]
    obtain ⟨X, hX⟩ : ∃ X, X = if i ≤ A ∧ j ≤ B then A - i else m + 1 := ⟨_, rfl⟩
    obtain ⟨Y, hY⟩ : ∃ Y, Y = B - j := ⟨_, rfl⟩
    have hh := zfor_hitD (s := E) (D := m + 1) (so := zm_pilesForm_L38 cv m i j) (si := zm_pilesForm_L47 cv i j) (fun Z : zS2 => Z 12 t) (fun Z => (∀ a q : Nat, a ≠ 12 → Z a q = S a q) ∧ (∀ q : Nat, q < W → 0 ≤ Z 12 q ∧ Z 12 q < p)) ⟨fun a q ha => by rw [e0, if_neg (by omega)], fun q hq => by rw [e0, if_pos (by omega)]; omega⟩ (X := X) (Y := Y) (v := c (5 * X + Y)) (fun a x ha => by
      unfold zm_pilesForm_L38
      dsimp only
      rw [zlet_v, show ((m : Int) - (a : Int) + 1 - 0).toNat = m + 1 - a by omega]) (fun a b Z hab hZ => by
      have cl : zm_cell Z cv a b = c (5 * a + b) := by
        rw [← hc a b (by omega), zM_cell, zM_cell, hZ.1 3 _ (by decide)]
      have es : zm_pilesForm_L47 cv i j a b Z = za Z 12 (ncol (i + a) (j + b)) (c (5 * a + b)) := by
        unfold zm_pilesForm_L47
        dsimp only
        rw [zlet_v, zlet_v, show (i : Int) + (a : Int) = ((i + a : Nat) : Int) by omega, show (j : Int) + (b : Int) = ((j + b : Nat) : Int) by omega, zm_long_n, Int.toNat_natCast, cl, zlet_v]
      rw [es]
      have rg := hcan a b (by omega)
      refine ⟨⟨fun x q hx => by rw [za_ne (by omega)]; exact hZ.1 x q hx, fun q hq => ?_⟩, fun hne => ?_, fun e _ => ?_⟩
      · by_cases z : q = ncol (i + a) (j + b)
        · rw [z, za_same]; exact rg
        · rw [za_ne (by omega)]; exact hZ.2 q hq
      · show za Z 12 (ncol (i + a) (j + b)) (c (5 * a + b)) 12 t = Z 12 t
        refine za_ne (fun z => ?_)
        obtain ⟨z1, z2⟩ := ncol_inj (et.symm.trans z.2)
        rw [if_pos (by omega)] at hX
        exact hne ⟨by omega, by omega⟩
      · show za Z 12 (ncol (i + a) (j + b)) (c (5 * a + b)) 12 t = c (5 * X + Y)
        by_cases q : i ≤ A ∧ j ≤ B
        · rw [if_pos q] at hX
          have e1 : i + a = A := by omega
          have e2 : j + b = B := by omega
          rw [e1, e2, ← et, za_same, e.1, e.2]
        · rw [if_neg q] at hX
          omega)
    refine ⟨hh.1, ?_⟩
    have h2 := hh.2
    have h3 : (zfor (zm_pilesForm_L38 cv m i j) 0 E (m + 1)) 12 t = if X + Y < m + 1 then c (5 * X + Y) else E 12 t := h2
    rw [h3]
    unfold kvec
    rw [kc_t_mul, ← hA, ← hB]
    by_cases q : i ≤ A ∧ j ≤ B
    · rw [if_pos q] at hX ⊢
      rw [hX, hY, ka_om]
      by_cases y : A - i + (B - j) < m + 1
      · rw [if_pos y, zq_t (by omega)]
      · rw [if_neg y, e0, if_pos (by omega), h.z, hm _ _ (by omega)]
    · rw [if_neg q] at hX ⊢
      rw [if_neg (by omega), e0, if_pos (by omega), h.z]
  obtain ⟨V, hV⟩ : ∃ V, V = zfor (zm_pilesForm_L38 cv m i j) 0 E (m + 1) := ⟨_, rfl⟩
  rw [← hV] at lay
  have W0 : 0 < W := by
    rw [hWd]
    have := nT_mono (show 1 ≤ dd + 1 by omega)
    have e : nT 1 = 1 := by decide
    omega
  have vo := (lay 0 W0).1.1
  have vc := (lay 0 W0).1.2
  have vv : kp_v φ W V = kp_w W (kc_mul (kc_t 1 i j) (zq φ c)) := funext fun t => by
    unfold kp_v kp_w
    by_cases q : t < W
    · rw [if_pos q, if_pos q, (lay t q).2]
    · rw [if_neg q, if_neg q]
  obtain ⟨z, T, t1, t2, t3⟩ := kp_I.step h hpr (S := V) hG hW (hI.same (fun a q hq => vo a q (by omega))) vc (by rw [vv]; exact hv)
  rw [vv] at t2
  have eF : ∃ x : Int, zm_pilesForm_L20 cv m i j S = za T 0 26 x := by
    have e1 : zm_pilesForm_L20 cv m i j S = if z = 0 then za T 0 26 ((V 0 26) + 0) else za T 0 26 ((V 0 26) + 1) := by
      unfold zm_pilesForm_L20
      dsimp only
      rw [zlet_v, ← hE, zlet_v, show ((m : Int) + 1 - 0).toNat = m + 1 by omega, ← hV, t1]
      simp only [zlet_v]
    rw [e1]
    by_cases q : z = 0
    · exact ⟨_, by rw [if_pos q]⟩
    · exact ⟨_, by rw [if_neg q]⟩
  obtain ⟨x, hx⟩ := eF
  refine ⟨za T 0 26 x, hx, t2.same (fun a q hq => za_ne (by omega)), fun a q h1 h2 h3 h4 => ?_⟩
  rw [za_ne (by omega), t3 a q h1 h2 h3 (by omega), vo a q h3]
end ZGk
