section ZWl
/-- what two make, as POLYNOMIALS, up to any DEGREE -/
theorem kp_G_PD {K : Type} [Lean.Grind.CommRing K] {W D n m : Nat} {f g : Nat → Nat → K} {v : Nat → K} (hn : n ≤ D) (hm : m ≤ D) (hv : kp_G W (nT (D + 1 - n)) (nT (D + 1 - m)) f g v) : ∃ A B : Nat → Nat → K, (∀ i j, D - n < i + j → A i j = 0) ∧ (∀ i j, D - m < i + j → B i j = 0) ∧ v = kp_w W (fun i j => kc_mul A f i j + kc_mul B g i j) := by
  obtain ⟨x, hx, e⟩ := hv
  refine ⟨kUn x 0 (nT (D + 1 - n)), kUn x (nT (D + 1 - n)) (nT (D + 1 - m)), fun i j hij => ?_, fun i j hij => ?_, e.symm⟩
  · rw [show D + 1 - n = D - n + 1 by omega]
    exact kUn_dg i j hij
  · rw [show D + 1 - m = D - m + 1 by omega]
    exact kUn_dg i j hij
theorem kUn_wW {K : Type} [Lean.Grind.CommRing K] {D : Nat} {P : Nat → Nat → K} (hP : ∀ i j, D < i + j → P i j = 0) : kUn (kp_w (nT (D + 1)) P) 0 (nT (D + 1)) = P := funext fun i => funext fun j => by
  unfold kUn kp_w kvec
  by_cases c : ncol i j < nT (D + 1)
  · rw [if_pos c, Nat.zero_add, if_pos c, ndc_ncol]
  · rw [if_neg c]
    refine (hP i j (Nat.lt_of_not_le fun q => c (ncol_lt (show i + j < D + 1 by omega)))).symm
/-- multiples, of vectors -/
def kN_T {K : Type} [Lean.Grind.CommRing K] (e : Nat) (h : Nat → Nat → K) (v : Nat → K) : Nat → K := kp_w 325 (kc_mul (kUn v 0 (nT (25 - e))) h)
theorem kN_T_ln {K : Type} [Lean.Grind.CommRing K] (e : Nat) (h : Nat → Nat → K) : kl_ln (kN_T e h) := fun c F m => by
  refine funext fun k => ?_
  unfold kN_T
  rw [kUn_lin, kc_mul_sumL, kp_wsum]
theorem kN_nT1 : ∀ e, e < 3 → ∀ nw, nw < 3 → ∀ nu, nu < 5 → e + nw < 3 → e + nu = 4 → nT (25 - e) + nT (25 - e + 0 - nw - nu) = nT (25 - e - nw) + nT (25 - e - nu) + nw * nu := by decide
theorem kN_nT2 : ∀ e, e < 3 → 325 + nT (24 + 1 + 0 - e - 3) = nT (24 + 1 - e) + nT (24 + 1 - 3) + 3 * e := by decide
theorem kN_nT3 : ∀ e, e < 3 → ∀ nw, nw < 3 → ∀ nu, nu < 5 → e + nw < 3 → e + nu = 4 → nw * nu + 3 * e ≤ 8 := by decide
theorem kN_nT4 : ∀ e, e < 3 → nT (25 - e) ≤ 325 := by decide
/-- ten POINTS are not on a conic -/
theorem kN_con {K : Type} [Lean.Grind.CommRing K] (hK : ka_F K) {U : (Nat → K) → Prop} (hU : kN_U U) {near : Nat} (n25 : near ≤ 325) (dU : kl_dim U (325 - near)) {f g Q : Nat → Nat → K} (f1 : ∀ i j, 4 < i + j → f i j = 0) (f2 : ∃ i j, i + j = 4 ∧ f i j ≠ 0) (g1 : ∀ i j, 3 < i + j → g i j = 0) (g2 : ∃ i j, i + j = 3 ∧ g i j ≠ 0) (hfg : kUW f g g f (kc_t 1 0 0)) (Uf : U (kp_w 325 f)) (Ug : U (kp_w 325 g)) (q0 : ∃ i j, Q i j ≠ 0) (q1 : ∀ i j, 2 < i + j → Q i j = 0) (UQ : U (kp_w 325 Q)) : near ≤ 8 := by
  have pl : ∀ {F : Nat → Nat → K} {n : Nat}, (∀ i j, n < i + j → F i j = 0) → kc_pl F := fun {F n} h => ⟨n + 1, fun i j hij => h i j (by omega)⟩
  have n0 : ∀ {F : Nat → Nat → K} {n : Nat}, (∃ i j, i + j = n ∧ F i j ≠ 0) → ∃ i j, F i j ≠ 0 := fun {F n} ⟨i, j, _, h⟩ => ⟨i, j, h⟩
  obtain ⟨u, w, h, pu, pw, ph, u0, w0, eQ, ef, al⟩ := kc_T1 hK Q f (pl q1) (pl f1) q0 (n0 f2)
  obtain ⟨δ, d1, d2⟩ := kc_ed (pl q1) q0
  obtain ⟨nu, u1, u2⟩ := kc_ed pu u0
  obtain ⟨nw, w1, w2⟩ := kc_ed pw w0
  have h0 : ∃ i j, h i j ≠ 0 := Classical.byContradiction fun no => by
    obtain ⟨i, j, _, ne⟩ := f2
    have z : h = fun _ _ => 0 := funext fun a => funext fun b => Classical.byContradiction fun z => no ⟨a, b, z⟩
    rw [ef, z] at ne
    exact ne (kc_zmul u i j)
  obtain ⟨e, h1, h2⟩ := kc_ed ph h0
  have e1 : e + nw = δ := kc_ed_u (kc_zero h1 w1) (kc_exact hK h1 w1 h2 w2) (by rw [← eQ]; exact d1) (by rw [← eQ]; exact d2)
  have e2 : e + nu = 4 := kc_ed_u (kc_zero h1 u1) (kc_exact hK h1 u1 h2 u2) (by rw [← ef]; exact f1) (by rw [← ef]; exact f2)
  have e3 : δ ≤ 2 := Nat.le_of_not_lt fun z => by
    obtain ⟨i, j, hij, ne⟩ := d2
    exact ne (q1 i j (by omega))
  have pl1 : kc_pl (kc_t (1 : K) 0 0) := ⟨1, fun i j hij => if_neg (by omega)⟩
  have U2 : kUW w u u w (kc_t 1 0 0) := ⟨pu, pw, pl1, u0, w0, (kc_1_mul w).symm, (kc_1_mul u).symm, fun u' w' p1 p2 e1 => al u' w' p1 p2 (by
    rw [eQ, ef, ← kc_mul_assoc, ← kc_mul_assoc, kc_mul_comm u' h, kc_mul_comm w' h, kc_mul_assoc, kc_mul_assoc, e1])⟩
  have U3 : kUW h g g h (kc_t 1 0 0) := ⟨pl g1, ph, pl1, n0 g2, h0, (kc_1_mul h).symm, (kc_1_mul g).symm, fun u' w' p1 p2 e1 => by
    obtain ⟨nw', w1', hw'⟩ : ∃ N : Nat, (∀ i j, N ≤ i + j → w' i j = 0) ∧ True := by
      obtain ⟨N, hN⟩ := p2
      exact ⟨N, hN, trivial⟩
    have pwu : kc_pl (kc_mul w' u) := ⟨nw' + nu + 1, fun i j hij => kc_zero (n := nw') (m := nu) (fun i j q => w1' i j (by omega)) u1 i j (by omega)⟩
    obtain ⟨c, pc, a1, a2⟩ := hfg.2.2.2.2.2.2.2 u' (kc_mul w' u) p1 pwu (by rw [ef, ← kc_mul_assoc, e1, kc_mul_assoc, kc_mul_assoc, kc_mul_comm g u])
    obtain ⟨N, hN⟩ := pc
    have pch : kc_pl (kc_mul c h) := ⟨N + e + 1, fun i j hij => kc_zero (n := N) (m := e) (fun i j q => hN i j (by omega)) h1 i j (by omega)⟩
    exact ⟨c, ⟨N, hN⟩, a1, kc_canc hK p2 pch u1 u2 (by rw [a2, ef, ← kc_mul_assoc])⟩⟩
  have sup : ∀ {W N1 N2 : Nat} {F G : Nat → Nat → K} (v : Nat → K), kp_G W N1 N2 F G v → ∀ k, W ≤ k → v k = 0 := fun {W N1 N2 F G} v ⟨x, _, hx⟩ k hk => by
    rw [← hx]
    exact if_neg (by omega)
  obtain ⟨c1, hc1⟩ := kl_dim_ex hK (V := kp_G (nT (24 - e + 1)) (nT (24 - e + 1 - nw)) (nT (24 - e + 1 - nu)) w u) (W := nT (24 - e + 1)) sup
  obtain ⟨c2, hc2⟩ := kl_dim_ex hK (V := kp_G 325 (nT (24 + 1 - e)) (nT (24 + 1 - 3)) h g) (W := 325) sup
  have r1 := kp_rank hK U2 (n := nw) (m := nu) (e := 0) (nu := nu) (nw := nw) (dd := 24 - e) rfl rfl w1 u1 u1 u2 w1 rfl hc1
  have r2 := kp_rank hK U3 (n := e) (m := 3) (e := 0) (nu := 3) (nw := e) (dd := 24) rfl rfl h1 g1 g1 g2 h1 kz_T17.2.2.symm hc2
  have T25 : nT 25 = 325 := kz_T17.2.2
  have b1 : c1 ≤ nT (24 - e + 1) := kl_dim_le hK (kl_dim_e _) hc1 sup
  have b2 : c2 ≤ 325 := kl_dim_le hK (kl_dim_e _) hc2 sup
  have s25 : 24 - e + 1 = 25 - e := by omega
  rw [s25] at r1 hc1 b1
  have m4 := kN_nT4 e (by omega)
  have k1 := kN_nT1 e (by omega) nw (by omega) nu (by omega) (by omega) e2
  have k2 := kN_nT2 e (by omega)
  have k3 := kN_nT3 e (by omega) nw (by omega) nu (by omega) (by omega) e2
  have Tdg : ∀ v : Nat → K, ∀ i j, 24 - e < i + j → kUn v 0 (nT (25 - e)) i j = 0 := fun v i j hij => by
    rw [← s25]
    exact kUn_dg i j hij
  obtain ⟨dY, hY⟩ := kl_dim_ex hK (V := fun y : Nat → K => ∃ a b : Nat → K, (∀ k, nT (25 - e) ≤ k → a k = 0) ∧ U b ∧ y = fun j => kN_T e h a j + b j) (W := 325) (fun v ⟨a, b, ha, hb, ev⟩ k hk => by
    rw [ev]
    show kN_T e h a k + b k = 0
    rw [hU.2.1 b hb k hk, show kN_T e h a k = 0 from if_neg (by omega), ka_az])
  obtain ⟨n1, en, hn⟩ := kl_pre hK (U := fun v : Nat → K => ∀ k, nT (25 - e) ≤ k → v k = 0) (V := U) (Y := fun y : Nat → K => ∃ a b : Nat → K, (∀ k, nT (25 - e) ≤ k → a k = 0) ∧ U b ∧ y = fun j => kN_T e h a j + b j) (kN_T e h) (kN_T_ln e h) (kl_cl_supp _) hU.1 (kl_dim_e _) dU hY (fun y => Iff.rfl)
  have l1 : c1 ≤ n1 := kl_dim_le hK hn hc1 (fun v hv => ⟨sup v hv, by
    have hv : kp_G (nT (25 - e)) (nT (24 - e + 1 - nw)) (nT (24 - e + 1 - nu)) w u v := by rw [s25]; exact hv
    obtain ⟨A, B, hA, hB, ev⟩ := kp_G_PD (D := 24 - e) (by omega) (by omega) hv
    have dAB : ∀ i j, 24 - e < i + j → (fun i j => kc_mul A w i j + kc_mul B u i j) i j = 0 := fun i j hij => by
      show kc_mul A w i j + kc_mul B u i j = 0
      rw [kc_zero hA w1 i j (by omega), kc_zero hB u1 i j (by omega), ka_az]
    have eT : kN_T e h v = kp_w 325 (fun i j => 1 * kc_mul A Q i j + 1 * kc_mul B f i j) := by
      unfold kN_T
      rw [ev, ← s25, kUn_wW dAB, kc_mul_add, kc_mul_assoc, kc_mul_assoc, kc_mul_comm w h, kc_mul_comm u h, ← eQ, ← ef]
      exact congrArg (kp_w 325) (funext fun i => funext fun j => by rw [ka_om, ka_om])
    rw [eT, kp_wab]
    exact hU.1.s (hU.2.2 (24 - e - nw) δ A Q (by omega) hA d1 UQ) (hU.2.2 (24 - e - nu) 4 B f (by omega) hB f1 Uf) 1 1⟩)
  have l2 : c2 ≤ dY := kl_dim_le hK hY hc2 (fun v hv => by
    obtain ⟨A, B, hA, hB, ev⟩ := kp_G_PD (D := 24) (by omega) (by omega) hv
    refine ⟨kp_w (nT (24 - e + 1)) A, kp_w 325 (kc_mul B g), fun k hk => if_neg (by rw [s25]; omega), hU.2.2 21 3 B g (by omega) hB g1 Ug, ?_⟩
    rw [ev]
    refine funext fun k => ?_
    rw [kp_wadd]
    unfold kN_T
    rw [← s25, kUn_wW hA])
  have e25 : e ≤ 2 := by omega
  have z1 : nT (25 - e + 0 - nw - nu) = nT (25 - e - nw - nu) := rfl
  have z2 : nT (24 + 1 + 0 - e - 3) = nT (24 + 1 - e - 3) := rfl
  have r1 : c1 + nT (25 - e - nw - nu) = nT (25 - e - nw) + nT (25 - e - nu) := r1
  have r2 : c2 + nT (24 + 1 - e - 3) = nT (24 + 1 - e) + nT (24 + 1 - 3) := r2
  have z3 : nT (24 + 1 - e) = nT (25 - e) := rfl
  omega
end ZWl
