section ZWm
theorem ka_addr {K : Type} [Lean.Grind.CommRing K] (a b c : K) (h : b = c) : a + b = a + c := by rw [h]
theorem kN_nm {n m near : Nat} (n1 : 1 ≤ n) (n4 : n ≤ 4) (m1 : 1 ≤ m) (m3 : m ≤ 3) (h : near ≤ n * m) (h10 : 10 ≤ near) : n = 4 ∧ m = 3 := by
  rcases (show n = 1 ∨ n = 2 ∨ n = 3 ∨ n = 4 by omega) with e | e | e | e <;> rcases (show m = 1 ∨ m = 2 ∨ m = 3 by omega) with q | q | q <;> subst e <;> subst q <;> omega
theorem kN_nm12 {n m : Nat} (n4 : n ≤ 4) (m3 : m ≤ 3) : n * m ≤ 12 := Nat.le_trans (Nat.mul_le_mul n4 m3) (by decide)
/-- NEAR: the TIMES there are no more -/
theorem kB_near {K : Type} [Lean.Grind.CommRing K] (hK : ka_F K) {Λ : Nat → Nat → (Nat → Nat → K) → Nat → Nat → K} {ln : Nat → Nat → Nat → Nat → K} {n m r1 r2 s : Nat} {f g : Nat → Nat → K} {t : Nat → Nat} (n1 : 1 ≤ n) (n4 : n ≤ 4) (m1 : 1 ≤ m) (m3 : m ≤ 3) (f1 : ∀ i j, n < i + j → f i j = 0) (f2 : ∃ i j, i + j = n ∧ f i j ≠ 0) (g1 : ∀ i j, m < i + j → g i j = 0) (g2 : ∃ i j, i + j = m ∧ g i j ≠ 0) (hfg : kUW f g g f (kc_t 1 0 0)) (d1 : kl_dim (kp_G 325 (nT (25 - n)) (nT (25 - m)) f g) r1) (d2 : kl_dim (kG8 (nT (25 - n)) (nT (25 - m)) f g) r2) (hs : kns t s ≤ n * m) (hq : ∀ q, q < s → kh_ok (Λ q) ∧ kh_sur (Λ q) ∧ kPT (Λ q) n m f g (t q)) (hl : kLn Λ ln s) (hind : ∀ q, q < s → ∀ D P, Λ q D P = Λ q 24 P) : kns t s + r1 ≤ r2 := by
  have h12 := kN_nm12 n4 m3
  have dU := kB_dim hK (Λ := Λ) (F := fun q => Λ q n f) (G := fun q => Λ q m g) (t := t) (ln := ln) s (by omega) (fun q h => ⟨(hq q h).1, (hq q h).2.1, (hq q h).2.2.1, (hq q h).2.2.2⟩) hl
  have hU : kN_U (kB_U Λ (fun q => Λ q n f) (fun q => Λ q m g) s) := by
    refine ⟨kB_U_cl (fun q h => (hq q h).1), fun v hv => hv.1, fun a b A P hab hA hP hu => ⟨fun k hk => if_neg (by omega), fun q h => ?_⟩⟩
    have z := hu.2 q h
    have dAP : ∀ i j, 24 < i + j → kc_mul A P i j = 0 := fun i j hij => kc_zero hA hP i j (by omega)
    unfold kB_T at z ⊢
    rw [kUn_w (fun i j hij => hP i j (by omega))] at z
    rw [kUn_w dAP, ← hind q h (a + b), (hq q h).1.2.1 a b A P hab hA hP, hind q h b]
    exact kw_Vz.2 ((kw_Vz.1 z).mul _)
  have hI : ∀ v, kp_G 325 (nT (25 - n)) (nT (25 - m)) f g v → kB_U Λ (fun q => Λ q n f) (fun q => Λ q m g) s v := fun v hv => kB_I (fun q h => (hq q h).1) (by omega) (by omega) f1 g1 hv
  rcases kN_case hK hU (by omega) dU with c | ⟨c10, Q, q0, q1, UQ⟩
  · exact kN_enough hK hU (by omega) dU hI d1 d2 c
  · exfalso
    obtain ⟨en, em⟩ := kN_nm n1 n4 m1 m3 hs c10
    subst en
    subst em
    have Uf := hI _ (kp_G_f 325 (nT (25 - 4)) (nT (25 - 3)) f g (i := 0) (j := 0) (by decide))
    have Ug := hI _ (kp_G_g 325 (nT (25 - 4)) (nT (25 - 3)) f g (i := 0) (j := 0) (by decide))
    rw [kc_1_mul] at Uf Ug
    have := kN_con hK hU (by omega) dU f1 f2 g1 g2 hfg Uf Ug q0 q1 UQ
    omega
/-- ORDERS: their product is no more than the TIMES -/
theorem kw_orders {K : Type} [Lean.Grind.CommRing K] (hK : ka_F K) {F G : Nat → Nat → K} {r s t : Nat} (rs : r + s ≤ 16) (hF : ∀ i j, i + j < r → F i j = 0) (hG : ∀ i j, i + j < s → G i j = 0) (t153 : t ≤ 153) (hd : kl_dim (kz_V F G) (153 - t)) : r * s ≤ t := by
  obtain ⟨x, x1, x2, _⟩ := hd
  have T17 : nT 17 = 153 := kz_T17.1
  have mono : nT (r + s) ≤ 153 := by
    rw [← T17]
    exact nT_mono (by omega)
  obtain ⟨Z, hZ⟩ : ∃ Z : Nat → Nat → K, Z = fun q => if q < nT s then kp_w 153 (kc_mul (kc_t 1 (ndc q).1 (ndc q).2) F) else if q < nT s + nT r then kp_w 153 (kc_mul (kc_t 1 (ndc (q - nT s)).1 (ndc (q - nT s)).2) G) else kl_e (nT (r + s) + (q - (nT s + nT r))) := ⟨_, rfl⟩
  have Za : ∀ q, q < nT s → Z q = kp_w 153 (kc_mul (kc_t 1 (ndc q).1 (ndc q).2) F) := fun q hq => by
    rw [hZ]
    exact if_pos hq
  have Zb : ∀ q, q < nT r → Z (nT s + q) = kp_w 153 (kc_mul (kc_t 1 (ndc q).1 (ndc q).2) G) := fun q hq => by
    rw [hZ]
    show (if nT s + q < nT s then _ else if nT s + q < nT s + nT r then kp_w 153 (kc_mul (kc_t 1 (ndc (nT s + q - nT s)).1 (ndc (nT s + q - nT s)).2) G) else _) = _
    rw [if_neg (by omega), if_pos (by omega), show nT s + q - nT s = q by omega]
  have Zc : ∀ q, Z (nT s + nT r + q) = kl_e (nT (r + s) + q) := fun q => by
    rw [hZ]
    show (if nT s + nT r + q < nT s then _ else if nT s + nT r + q < nT s + nT r then _ else kl_e (nT (r + s) + (nT s + nT r + q - (nT s + nT r)))) = _
    rw [if_neg (by omega), if_neg (by omega), show nT s + nT r + q - (nT s + nT r) = q by omega]
  have low : ∀ {X H : Nat → Nat → K} {a b : Nat}, (∀ i j, i + j < a → H i j = 0) → (∀ i j, i + j < b → X i j = 0) → ∀ i j, i + j < b + a → kc_mul X H i j = 0 := fun hH hX => kw_ord hX hH
  have sp : ∀ v, kz_V F G v → kl_sp Z (nT s + nT r + (153 - nT (r + s))) v := fun v ⟨A, B, ev⟩ => by
    obtain ⟨A0, hA0⟩ : ∃ A0 : Nat → Nat → K, A0 = fun i j => if i + j < s then A i j else 0 := ⟨_, rfl⟩
    obtain ⟨B0, hB0⟩ : ∃ B0 : Nat → Nat → K, B0 = fun i j => if i + j < r then B i j else 0 := ⟨_, rfl⟩
    obtain ⟨R, hR⟩ : ∃ R : Nat → Nat → K, R = fun i j => kc_mul (fun a b => A a b + (-1) * A0 a b) F i j + kc_mul (fun a b => B a b + (-1) * B0 a b) G i j := ⟨_, rfl⟩
    have R0 : ∀ i j, i + j < r + s → R i j = 0 := fun i j hij => by
      rw [hR]
      show kc_mul (fun a b => A a b + (-1) * A0 a b) F i j + kc_mul (fun a b => B a b + (-1) * B0 a b) G i j = 0
      rw [low hF (b := s) (fun a b hab => by
        show A a b + (-1) * A0 a b = 0
        rw [hA0]
        show A a b + (-1) * (if a + b < s then A a b else 0) = 0
        rw [if_pos hab]
        exact km_3 _) i j (by omega), low hG (b := r) (fun a b hab => by
        show B a b + (-1) * B0 a b = 0
        rw [hB0]
        show B a b + (-1) * (if a + b < r then B a b else 0) = 0
        rw [if_pos hab]
        exact km_3 _) i j (by omega), ka_az]
    have e1 : ∀ i j, kc_mul A F i j + kc_mul B G i j = kc_mul A0 F i j + kc_mul B0 G i j + R i j := fun i j => by
      rw [hR]
      show _ = kc_mul A0 F i j + kc_mul B0 G i j + (kc_mul (fun a b => A a b + (-1) * A0 a b) F i j + kc_mul (fun a b => B a b + (-1) * B0 a b) G i j)
      rw [kc_mul_ac, kc_mul_ac]
      grind
    have a0 : ∀ i j, nT s ≤ ncol i j → A0 i j = 0 := fun i j h => by
      rw [hA0]
      exact if_neg (fun z => by have := ncol_lt z; omega)
    have b0 : ∀ i j, nT r ≤ ncol i j → B0 i j = 0 := fun i j h => by
      rw [hB0]
      exact if_neg (fun z => by have := ncol_lt z; omega)
    refine ⟨fun q => if q < nT s then A0 (ndc q).1 (ndc q).2 else if q < nT s + nT r then B0 (ndc (q - nT s)).1 (ndc (q - nT s)).2 else R (ndc (nT (r + s) + (q - (nT s + nT r)))).1 (ndc (nT (r + s) + (q - (nT s + nT r)))).2, fun k => ?_⟩
    rw [ka_s_split, ka_s_split, ka_s_congr (g := fun q => A0 (ndc q).1 (ndc q).2 * kp_w 153 (kc_mul (kc_t 1 (ndc q).1 (ndc q).2) F) k) (nT s) (fun q hq => by
      show (if q < nT s then A0 (ndc q).1 (ndc q).2 else _) * Z q k = _
      rw [if_pos hq, Za q hq]), ka_s_congr (g := fun q => B0 (ndc q).1 (ndc q).2 * kp_w 153 (kc_mul (kc_t 1 (ndc q).1 (ndc q).2) G) k) (nT r) (fun q hq => by
      show (if nT s + q < nT s then _ else if nT s + q < nT s + nT r then B0 (ndc (nT s + q - nT s)).1 (ndc (nT s + q - nT s)).2 else _) * Z (nT s + q) k = _
      rw [if_neg (by omega), if_pos (by omega), Zb q hq, show nT s + q - nT s = q by omega]), ka_s_congr (g := fun q => R (ndc (nT (r + s) + q)).1 (ndc (nT (r + s) + q)).2 * (kl_e (nT (r + s) + q) : Nat → K) k) (153 - nT (r + s)) (fun q hq => by
      show (if nT s + nT r + q < nT s then _ else if nT s + nT r + q < nT s + nT r then _ else R (ndc (nT (r + s) + (nT s + nT r + q - (nT s + nT r)))).1 (ndc (nT (r + s) + (nT s + nT r + q - (nT s + nT r)))).2) * Z (nT s + nT r + q) k = _
      rw [if_neg (by omega), if_neg (by omega), Zc q, show nT s + nT r + q - (nT s + nT r) = q by omega])]
    rw [ev, kp_wsum, kp_wsum]
    unfold kp_w kvec
    by_cases c : k < 153
    · rw [if_pos c, if_pos c, if_pos c]
      dsimp only
      rw [e1, kc_sum_t F a0, kc_sum_t G b0]
      refine ka_addr _ _ _ ?_
      by_cases c2 : nT (r + s) ≤ k
      · rw [ka_s_one (k := k - nT (r + s)) (153 - nT (r + s)) (by omega) (fun q hq ne => by
          show _ * (if k = nT (r + s) + q then (1 : K) else 0) = 0
          rw [if_neg (by omega), ka_mz])]
        show _ = R (ndc (nT (r + s) + (k - nT (r + s)))).1 (ndc (nT (r + s) + (k - nT (r + s)))).2 * (if k = nT (r + s) + (k - nT (r + s)) then (1 : K) else 0)
        rw [if_pos (by omega), show nT (r + s) + (k - nT (r + s)) = k by omega]
        exact (Lean.Grind.Semiring.mul_one _).symm
      · rw [ka_s_zero (153 - nT (r + s)) (fun q hq => by
          show _ * (if k = nT (r + s) + q then (1 : K) else 0) = 0
          rw [if_neg (by omega), ka_mz])]
        exact R0 _ _ (ndc_dg (by omega))
    · rw [if_neg c, if_neg c, if_neg c, ka_az, ka_za]
      exact (ka_s_zero (153 - nT (r + s)) (fun q hq => by
        show _ * (if k = nT (r + s) + q then (1 : K) else 0) = 0
        rw [if_neg (by omega), ka_mz])).symm
  have le := kl_le hK x1 (fun t ht => sp _ (x2 t ht))
  have ident : ∀ a b : Nat, nT (a + b) = nT a + nT b + a * b := fun a b => by
    induction b with
    | zero =>
      show nT a = nT a + 0 + a * 0
      omega
    | succ b ih =>
      rw [show a + (b + 1) = (a + b) + 1 by omega, nT_s, nT_s, ih, Nat.mul_succ]
      omega
  have := ident r s
  omega
end ZWm
