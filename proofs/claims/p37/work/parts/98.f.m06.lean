section ZWg
/-- the way to see FORMS near a POINT -/
noncomputable def kLam {K : Type} [Lean.Grind.CommRing K] (φ : Int → K) (p pt : Int) : Nat → (Nat → Nat → K) → Nat → Nat → K := if pt < p * p then fun _ P => kh_S (φ (zpx pt p)) (φ (zpy pt p)) P else if pt = p * p + p then kh_L else fun D P => kh_S (φ (zpy pt p)) (φ 0) (kh_F D P)
theorem kLam_1 {K : Type} [Lean.Grind.CommRing K] {φ : Int → K} {p pt : Int} (h : pt < p * p) : kLam φ p pt = fun _ P => kh_S (φ (zpx pt p)) (φ (zpy pt p)) P := if_pos h
theorem kLam_2 {K : Type} [Lean.Grind.CommRing K] {φ : Int → K} {p pt : Int} (h : ¬ pt < p * p) (h2 : pt = p * p + p) : kLam φ p pt = kh_L := by
  unfold kLam
  rw [if_neg h, if_pos h2]
theorem kLam_3 {K : Type} [Lean.Grind.CommRing K] {φ : Int → K} {p pt : Int} (h : ¬ pt < p * p) (h2 : ¬ pt = p * p + p) : kLam φ p pt = fun D P => kh_S (φ (zpy pt p)) (φ 0) (kh_F D P) := by
  unfold kLam
  rw [if_neg h, if_neg h2]
theorem kLam_ok {K : Type} [Lean.Grind.CommRing K] (φ : Int → K) (p pt : Int) : kh_ok (kLam φ p pt) := by
  by_cases c1 : pt < p * p
  · rw [kLam_1 c1]
    exact kh_S_ok _ _ _ kh_id_ok
  · by_cases c2 : pt = p * p + p
    · rw [kLam_2 c1 c2]
      exact kh_L_ok
    · rw [kLam_3 c1 c2]
      exact kh_S_ok _ _ _ kh_F_ok
theorem kLam_at {K : Type} [Lean.Grind.CommRing K] {p : Int} {φ : Int → K} (h : zKp K p φ) (pt : Int) (d : Nat → Int) (n : Nat) (hn : (n : Int) = ztop d) : zq φ (zlook d p (zpx pt p) (zpy pt p) (zpz pt p)) = kLam φ p pt n (zq φ d) := by
  by_cases e1 : pt < p * p
  · rw [kLam_1 e1, show zpz pt p = 1 from if_pos e1]
    exact kh_near h d _ _
  · rw [show zpz pt p = 0 from if_neg e1]
    by_cases e2 : pt = p * p + p
    · rw [kLam_2 e1 e2, show zpx pt p = 0 from by unfold zpx; rw [if_neg e1, if_pos e2]]
      exact kh_last h d _ hn
    · rw [kLam_3 e1 e2, show zpx pt p = 1 from by unfold zpx; rw [if_neg e1, if_neg e2]]
      exact kh_far h d _ hn
theorem kl_nn {K : Type} [Lean.Grind.CommRing K] (x : K) : - -x = x := by grind
theorem kh_S_inv2 {K : Type} [Lean.Grind.CommRing K] {x y : K} {R : Nat → Nat → K} (hR : ∀ i j, 24 < i + j → R i j = 0) : kh_S x y (kh_S (-x) (-y) R) = R := by
  have := kh_S_inv (x := -x) (y := -y) hR
  rwa [kl_nn, kl_nn] at this
theorem kLam_sur {K : Type} [Lean.Grind.CommRing K] (φ : Int → K) (p pt : Int) : kh_sur (kLam φ p pt) := fun D R hD hR => by
  have hR24 : ∀ i j, 24 < i + j → R i j = 0 := fun i j hij => hR i j (by omega)
  by_cases c1 : pt < p * p
  · rw [kLam_1 c1]
    exact ⟨kh_S (-φ (zpx pt p)) (-φ (zpy pt p)) R, kh_S_dg hR, kh_S_inv2 hR24⟩
  · by_cases c2 : pt = p * p + p
    · rw [kLam_2 c1 c2]
      exact ⟨kh_L D R, kh_L_dg, kh_L_inv hR⟩
    · rw [kLam_3 c1 c2]
      refine ⟨kh_T (kh_L D (kh_S (-φ (zpy pt p)) (-φ 0) R)), kh_T_dg kh_L_dg, ?_⟩
      have e : kh_F D (kh_T (kh_L D (kh_S (-φ (zpy pt p)) (-φ 0) R))) = kh_S (-φ (zpy pt p)) (-φ 0) R := kh_L_inv (kh_S_dg hR)
      show kh_S (φ (zpy pt p)) (φ 0) (kh_F D (kh_T (kh_L D (kh_S (-φ (zpy pt p)) (-φ 0) R)))) = R
      rw [e]
      exact kh_S_inv2 hR24
theorem kc_l_00 {K : Type} [Lean.Grind.CommRing K] (a b c : K) : kc_l a b c 0 0 = c := by
  unfold kc_l
  rw [if_neg (by omega), if_neg (by omega), if_pos ⟨rfl, rfl⟩]
theorem kc_l_10 {K : Type} [Lean.Grind.CommRing K] (a b c : K) : kc_l a b c 1 0 = a := by
  unfold kc_l
  rw [if_pos ⟨rfl, rfl⟩]
theorem kc_l_01 {K : Type} [Lean.Grind.CommRing K] (a b c : K) : kc_l a b c 0 1 = b := by
  unfold kc_l
  rw [if_neg (by omega), if_pos ⟨rfl, rfl⟩]
theorem kh_S_l {K : Type} [Lean.Grind.CommRing K] (x y a b c : K) : kh_S x y (kc_l a b c) 0 0 = a * x + b * y + c := by
  unfold kh_S
  rw [kc_sb_l _ _ _ _ _ (by omega)]
  show a * kc_l 1 0 x 0 0 + b * kc_l 0 1 y 0 0 + c * (if 0 = 0 ∧ 0 = 0 then 1 else 0) = _
  rw [kc_l_00, kc_l_00, if_pos ⟨rfl, rfl⟩, Lean.Grind.Semiring.mul_one]
theorem kh_F_l {K : Type} [Lean.Grind.CommRing K] (a b c : K) : kh_F 1 (kc_l a b c) = kc_l b c a := funext fun i => funext fun j => by
  show (if i + j ≤ 1 then kc_l a b c (1 - i - j) i else 0) = kc_l b c a i j
  by_cases q : i + j ≤ 1
  · rw [if_pos q]
    have : (i = 0 ∧ j = 0) ∨ (i = 1 ∧ j = 0) ∨ (i = 0 ∧ j = 1) := by omega
    rcases this with ⟨e1, e2⟩ | ⟨e1, e2⟩ | ⟨e1, e2⟩
    · rw [e1, e2, kc_l_00]; exact kc_l_10 _ _ _
    · rw [e1, e2, kc_l_10]; exact kc_l_01 _ _ _
    · rw [e1, e2, kc_l_01]; exact kc_l_00 _ _ _
  · rw [if_neg q]
    exact (kc_l_dg i j (by omega)).symm
theorem kl_r_l1 {K : Type} [Lean.Grind.CommRing K] (a b c x y : K) : b * y + c * 0 + a = a * 1 + b * y + c * 0 := by grind
theorem kl_r_l2 {K : Type} [Lean.Grind.CommRing K] (a b c : K) : b = a * 0 + b * 1 + c * 0 := by grind
theorem kl_r_l3 {K : Type} [Lean.Grind.CommRing K] (a b c x y : K) : a * x + b * y + c = a * x + b * y + c * 1 := by grind
/-- a line at a POINT -/
theorem kLam_l {K : Type} [Lean.Grind.CommRing K] {p : Int} {φ : Int → K} (h : zKp K p φ) (pt : Int) (a b c : K) : kLam φ p pt 1 (kc_l a b c) 0 0 = a * φ (zpx pt p) + b * φ (zpy pt p) + c * φ (zpz pt p) := by
  by_cases c1 : pt < p * p
  · rw [kLam_1 c1, show zpz pt p = 1 from if_pos c1, h.o]
    show kh_S (φ (zpx pt p)) (φ (zpy pt p)) (kc_l a b c) 0 0 = _
    rw [kh_S_l]
    exact kl_r_l3 _ _ _ _ _
  · rw [show zpz pt p = 0 from if_neg c1, h.z]
    by_cases c2 : pt = p * p + p
    · rw [kLam_2 c1 c2, show zpx pt p = 0 from by unfold zpx; rw [if_neg c1, if_pos c2], show zpy pt p = 1 from by unfold zpy; rw [if_neg c1, if_pos c2], h.o, h.z]
      show (if 0 + 0 ≤ 1 then kc_l a b c 0 (1 - 0 - 0) else 0) = _
      rw [if_pos (by omega)]
      show kc_l a b c 0 1 = _
      rw [kc_l_01]
      exact kl_r_l2 _ _ _
    · rw [kLam_3 c1 c2, show zpx pt p = 1 from by unfold zpx; rw [if_neg c1, if_neg c2], h.o]
      show kh_S (φ (zpy pt p)) (φ 0) (kh_F 1 (kc_l a b c)) 0 0 = _
      rw [kh_F_l, kh_S_l, h.z]
      exact kl_r_l1 _ _ _ 0 _
theorem kl_r_k1 {K : Type} [Lean.Grind.CommRing K] (x y z x' y' z' : K) : y' * x' + (-x') * y' + 0 * z' = 0 := by grind
theorem kl_r_k2 {K : Type} [Lean.Grind.CommRing K] (x y z x' y' z' : K) : z' * x' + 0 * y' + (-x') * z' = 0 := by grind
theorem kl_r_k3 {K : Type} [Lean.Grind.CommRing K] (x y z x' y' z' : K) : 0 * x' + z' * y' + (-y') * z' = 0 := by grind
theorem kl_r_k4 {K : Type} [Lean.Grind.CommRing K] (x y z x' y' : K) : y' * x + (-x') * y + 0 * z = x * y' - x' * y := by grind
theorem kl_r_k5 {K : Type} [Lean.Grind.CommRing K] (x y z x' z' : K) : z' * x + 0 * y + (-x') * z = x * z' - x' * z := by grind
theorem kl_r_k6 {K : Type} [Lean.Grind.CommRing K] (x y z y' z' : K) : 0 * x + z' * y + (-y') * z = y * z' - y' * z := by grind
theorem zdm {p a b : Int} (hp : 0 < p) (h1 : a / p = b / p) (h2 : a % p = b % p) : a = b := by
  rw [← Int.mul_ediv_add_emod a p, ← Int.mul_ediv_add_emod b p, h1, h2]
/-- of two POINTS some minor is not 0 -/
theorem kminor {K : Type} [Lean.Grind.CommRing K] {p : Int} {φ : Int → K} (h : zKp K p φ) (hp : 2 ≤ p) {s t : Int} (hs : zpt s p) (ht : zpt t p) (ne : s ≠ t) : φ (zpx s p) * φ (zpy t p) - φ (zpx t p) * φ (zpy s p) ≠ 0 ∨ φ (zpx s p) * φ (zpz t p) - φ (zpx t p) * φ (zpz s p) ≠ 0 ∨ φ (zpy s p) * φ (zpz t p) - φ (zpy t p) * φ (zpz s p) ≠ 0 := by
  refine Classical.byContradiction fun no => ?_
  have n1 : φ (zpx s p) * φ (zpy t p) - φ (zpx t p) * φ (zpy s p) = 0 := Classical.byContradiction fun z => no (Or.inl z)
  have n2 : φ (zpx s p) * φ (zpz t p) - φ (zpx t p) * φ (zpz s p) = 0 := Classical.byContradiction fun z => no (Or.inr (Or.inl z))
  have n3 : φ (zpy s p) * φ (zpz t p) - φ (zpy t p) * φ (zpz s p) = 0 := Classical.byContradiction fun z => no (Or.inr (Or.inr z))
  rw [← h.ml, ← h.ml, ← h.sb, h.zz] at n1 n2 n3
  have hs := hs
  unfold zpt zmany at hs ht
  have dv : ∀ {x : Int}, x % p = 0 → -p < x → x < p → x = 0 := fun {x} h1 h2 h3 => by
    by_cases c : 0 ≤ x
    · rw [Int.emod_eq_of_lt c h3] at h1; exact h1
    · have e : (x + p) % p = 0 := by rw [Int.add_emod_right]; exact h1
      rw [Int.emod_eq_of_lt (by omega) (by omega)] at e
      omega
  by_cases a1 : s < p * p
  · have zs : zpz s p = 1 := if_pos a1
    have xs : zpx s p = s / p := if_pos a1
    have ys : zpy s p = s % p := if_pos a1
    have xr : 0 ≤ s / p ∧ s / p < p := ⟨Int.ediv_nonneg hs.1 (by omega), Int.ediv_lt_of_lt_mul (by omega) a1⟩
    have yr : 0 ≤ s % p ∧ s % p < p := ⟨Int.emod_nonneg _ (by omega), Int.emod_lt_of_pos _ (by omega)⟩
    by_cases a2 : t < p * p
    · have zt : zpz t p = 1 := if_pos a2
      have xt : zpx t p = t / p := if_pos a2
      have yt : zpy t p = t % p := if_pos a2
      have xr' : 0 ≤ t / p ∧ t / p < p := ⟨Int.ediv_nonneg ht.1 (by omega), Int.ediv_lt_of_lt_mul (by omega) a2⟩
      have yr' : 0 ≤ t % p ∧ t % p < p := ⟨Int.emod_nonneg _ (by omega), Int.emod_lt_of_pos _ (by omega)⟩
      rw [xs, xt, zs, zt, Int.mul_one, Int.mul_one] at n2
      rw [ys, yt, zs, zt, Int.mul_one, Int.mul_one] at n3
      have e1 := dv n2 (by omega) (by omega)
      have e2 := dv n3 (by omega) (by omega)
      exact ne (zdm (by omega) (by omega : s / p = t / p) (by omega))
    · have zt : zpz t p = 0 := if_neg a2
      by_cases a3 : t = p * p + p
      · have yt : zpy t p = 1 := by unfold zpy; rw [if_neg a2, if_pos a3]
        rw [zs, zt, yt, Int.mul_zero, Int.mul_one] at n3
        have := dv n3 (by omega) (by omega)
        omega
      · have xt : zpx t p = 1 := by unfold zpx; rw [if_neg a2, if_neg a3]
        rw [zs, zt, xt, Int.mul_zero, Int.mul_one] at n2
        have := dv n2 (by omega) (by omega)
        omega
  · have zs : zpz s p = 0 := if_neg a1
    by_cases a2 : t < p * p
    · have zt : zpz t p = 1 := if_pos a2
      by_cases a3 : s = p * p + p
      · have ys : zpy s p = 1 := by unfold zpy; rw [if_neg a1, if_pos a3]
        rw [zs, zt, ys, Int.mul_zero, Int.mul_one] at n3
        have := dv n3 (by omega) (by omega)
        omega
      · have xs : zpx s p = 1 := by unfold zpx; rw [if_neg a1, if_neg a3]
        rw [zs, zt, xs, Int.mul_zero, Int.mul_one] at n2
        have := dv n2 (by omega) (by omega)
        omega
    · by_cases a3 : s = p * p + p
      · have xs : zpx s p = 0 := by unfold zpx; rw [if_neg a1, if_pos a3]
        have ys : zpy s p = 1 := by unfold zpy; rw [if_neg a1, if_pos a3]
        have b3 : ¬ t = p * p + p := fun z => ne (a3.trans z.symm)
        have xt : zpx t p = 1 := by unfold zpx; rw [if_neg a2, if_neg b3]
        rw [xs, ys, xt, Int.zero_mul, Int.mul_one] at n1
        have := dv n1 (by omega) (by omega)
        omega
      · have xs : zpx s p = 1 := by unfold zpx; rw [if_neg a1, if_neg a3]
        have ys : zpy s p = s - p * p := by unfold zpy; rw [if_neg a1, if_neg a3]
        by_cases b3 : t = p * p + p
        · have xt : zpx t p = 0 := by unfold zpx; rw [if_neg a2, if_pos b3]
          have yt : zpy t p = 1 := by unfold zpy; rw [if_neg a2, if_pos b3]
          rw [xs, yt, xt, Int.zero_mul, Int.mul_one] at n1
          have := dv n1 (by omega) (by omega)
          omega
        · have xt : zpx t p = 1 := by unfold zpx; rw [if_neg a2, if_neg b3]
          have yt : zpy t p = t - p * p := by unfold zpy; rw [if_neg a2, if_neg b3]
          rw [xs, ys, xt, yt, Int.one_mul, Int.one_mul] at n1
          have := dv n1 (by omega) (by omega)
          exact ne (by omega)
/-- a line through the one, not through the other -/
theorem kline_ex {K : Type} [Lean.Grind.CommRing K] {p : Int} {φ : Int → K} (h : zKp K p φ) (hp : 2 ≤ p) (s t : Int) : ∃ l : Nat → Nat → K, (∀ i j, 1 < i + j → l i j = 0) ∧ (zpt s p → zpt t p → s ≠ t → kLam φ p s 1 l 0 0 ≠ 0 ∧ kLam φ p t 1 l 0 0 = 0) := by
  by_cases c : zpt s p ∧ zpt t p ∧ s ≠ t
  · obtain ⟨c1, c2, c3⟩ := c
    rcases kminor h hp c1 c2 c3 with q | q | q
    · refine ⟨kc_l (φ (zpy t p)) (-φ (zpx t p)) 0, kc_l_dg, fun _ _ _ => ⟨?_, ?_⟩⟩
      · rw [kLam_l h, kl_r_k4]; exact q
      · rw [kLam_l h]; exact kl_r_k1 0 0 0 _ _ _
    · refine ⟨kc_l (φ (zpz t p)) 0 (-φ (zpx t p)), kc_l_dg, fun _ _ _ => ⟨?_, ?_⟩⟩
      · rw [kLam_l h, kl_r_k5]; exact q
      · rw [kLam_l h]; exact kl_r_k2 0 0 0 _ _ _
    · refine ⟨kc_l 0 (φ (zpz t p)) (-φ (zpy t p)), kc_l_dg, fun _ _ _ => ⟨?_, ?_⟩⟩
      · rw [kLam_l h, kl_r_k6]; exact q
      · rw [kLam_l h]; exact kl_r_k3 0 0 0 _ _ _
  · exact ⟨kc_l 0 0 0, kc_l_dg, fun a b d => absurd ⟨a, b, d⟩ c⟩
end ZWg
