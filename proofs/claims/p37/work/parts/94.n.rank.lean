section ZGn
theorem km_1 {K : Type} [Lean.Grind.CommRing K] (a b c d e : K) : a + c * b + (d + c * e) = a + d + c * (b + e) := by grind
theorem km_2 {K : Type} [Lean.Grind.CommRing K] (a b c : K) : (-1) * (a + c * b) = (-1) * a + c * ((-1) * b) := by grind
theorem km_3 {K : Type} [Lean.Grind.CommRing K] (a : K) : a + (-1) * a = 0 := by grind
theorem km_4 {K : Type} [Lean.Grind.CommRing K] (a : K) : (-1) * ((-1) * a) = a := by grind
theorem km_5 {K : Type} [Lean.Grind.CommRing K] (a b : K) (h : a + b = 0) : a = (-1) * b := by grind
theorem kl_lin_of {K J : Type} [Lean.Grind.CommRing K] (T : (Nat → K) → J → K) (h0 : T (fun _ => 0) = fun _ => 0) (hac : ∀ v w (c : K), T (fun i => v i + c * w i) = fun j => T v j + c * T w j) : (∀ (c : Nat → K) (F : Nat → Nat → K) m, T (fun i => ka_s (fun t => c t * F t i) m) = fun j => ka_s (fun t => c t * T (F t) j) m) ∧ ∀ v w, T (fun i => v i - w i) = fun j => T v j - T w j := by
  refine ⟨fun c F m => ?_, fun v w => ?_⟩
  · induction m with
    | zero => exact h0
    | succ m ih =>
      have e : T (fun i => ka_s (fun t => c t * F t i) (m + 1)) = T (fun i => ka_s (fun t => c t * F t i) m + c m * F m i) := rfl
      rw [e, hac, ih]
      rfl
  · have e : (fun i => v i - w i) = fun i => v i + (-1) * w i := funext fun i => by
      generalize v i = a
      generalize w i = b
      grind
    rw [e, hac]
    funext j
    generalize T v j = a
    generalize T w j = b
    grind
/-- multiples of both, as lines -/
def kp_T {K : Type} [Lean.Grind.CommRing K] (W N1 N2 : Nat) (f g : Nat → Nat → K) (x : Nat → K) : Nat → K := kp_w W (fun i j => kc_mul (kUn x 0 N1) f i j + kc_mul (kUn x N1 N2) g i j)
theorem kUn_ac {K : Type} [Lean.Grind.CommRing K] (off N : Nat) (v w : Nat → K) (c : K) : kUn (fun i => v i + c * w i) off N = fun i j => kUn v off N i j + c * kUn w off N i j := funext fun i => funext fun j => by
  unfold kUn
  by_cases q : ncol i j < N
  · rw [if_pos q, if_pos q, if_pos q]
  · rw [if_neg q, if_neg q, if_neg q, ka_mz, ka_az]
theorem kp_T_ac {K : Type} [Lean.Grind.CommRing K] (W N1 N2 : Nat) (f g : Nat → Nat → K) (v w : Nat → K) (c : K) : kp_T W N1 N2 f g (fun i => v i + c * w i) = fun j => kp_T W N1 N2 f g v j + c * kp_T W N1 N2 f g w j := funext fun k => by
  unfold kp_T kp_w
  by_cases q : k < W
  · rw [if_pos q, if_pos q, if_pos q]
    unfold kvec
    dsimp only
    rw [kUn_ac, kUn_ac, kc_mul_ac, kc_mul_ac]
    exact km_1 _ _ _ _ _
  · rw [if_neg q, if_neg q, if_neg q, ka_mz, ka_az]
theorem kp_T_0 {K : Type} [Lean.Grind.CommRing K] (W N1 N2 : Nat) (f g : Nat → Nat → K) : kp_T W N1 N2 f g (fun _ => 0) = fun _ => 0 := funext fun k => by
  have z : ∀ off N, kUn (fun _ => (0 : K)) off N = fun _ _ => 0 := fun off N => funext fun i => funext fun j => by
    unfold kUn
    split <;> rfl
  unfold kp_T kp_w
  by_cases q : k < W
  · rw [if_pos q]
    unfold kvec
    dsimp only
    rw [z, z, kc_zmul, kc_zmul, ka_az]
  · rw [if_neg q]
/-- how many couples there are up to a DEGREE -/
theorem kp_ker {K : Type} [Lean.Grind.CommRing K] (hK : ka_F K) {f g u w hh : Nat → Nat → K} (hU : kUW f g u w hh) {n m e nu nw dd W : Nat} (em : nu + e = m) (en : nw + e = n) (f1 : ∀ i j, n < i + j → f i j = 0) (g1 : ∀ i j, m < i + j → g i j = 0) (u1 : ∀ i j, nu < i + j → u i j = 0) (u2 : ∃ i j, i + j = nu ∧ u i j ≠ 0) (w1 : ∀ i j, nw < i + j → w i j = 0) (hW : W = nT (dd + 1)) : kl_dim (fun x : Nat → K => (∀ k, nT (dd + 1 - n) + nT (dd + 1 - m) ≤ k → x k = 0) ∧ ∀ j, kp_T W (nT (dd + 1 - n)) (nT (dd + 1 - m)) f g x j = 0) (nT (dd + 1 + e - n - m)) := by
  obtain ⟨N1, hN1⟩ : ∃ N1, N1 = nT (dd + 1 - n) := ⟨_, rfl⟩
  obtain ⟨N2, hN2⟩ : ∃ N2, N2 = nT (dd + 1 - m) := ⟨_, rfl⟩
  obtain ⟨N3, hN3⟩ : ∃ N3, N3 = nT (dd + 1 + e - n - m) := ⟨_, rfl⟩
  rw [← hN1, ← hN2, ← hN3]
  obtain ⟨pu, pw, ph, u0, w0, ef, eg, al⟩ := hU
  -- the couple of a multiple
  obtain ⟨T, hT⟩ : ∃ T : (Nat → K) → Nat → K, T = fun c k => if k < N1 then kc_mul (kUn c 0 N3) u (ndc k).1 (ndc k).2 else if k < N1 + N2 then (-1) * kc_mul (kUn c 0 N3) w (ndc (k - N1)).1 (ndc (k - N1)).2 else 0 := ⟨_, rfl⟩
  have cdg : ∀ c : Nat → K, ∀ i j, dd + 1 + e - n - m ≤ i + j → kUn c 0 N3 i j = 0 := fun c i j hij => if_neg (by
    have := ncol_ge (i := i) (j := j) hij
    omega)
  have cu : ∀ c : Nat → K, ∀ i j, dd + 1 - n ≤ i + j → kc_mul (kUn c 0 N3) u i j = 0 := fun c i j hij => by
    by_cases q : dd + 1 + e - n - m = 0
    · have z : kUn c 0 N3 = fun _ _ => 0 := funext fun x => funext fun y => cdg c x y (by omega)
      rw [z]
      exact kc_zmul u i j
    · exact kc_zero (n := dd + e - n - m) (m := nu) (fun x y hxy => cdg c x y (by omega)) u1 i j (by omega)
  have cw : ∀ c : Nat → K, ∀ i j, dd + 1 - m ≤ i + j → kc_mul (kUn c 0 N3) w i j = 0 := fun c i j hij => by
    by_cases q : dd + 1 + e - n - m = 0
    · have z : kUn c 0 N3 = fun _ _ => 0 := funext fun x => funext fun y => cdg c x y (by omega)
      rw [z]
      exact kc_zmul w i j
    · exact kc_zero (n := dd + e - n - m) (m := nw) (fun x y hxy => cdg c x y (by omega)) w1 i j (by omega)
  have T1 : ∀ c, kUn (T c) 0 N1 = kc_mul (kUn c 0 N3) u := fun c => funext fun i => funext fun j => by
    have e0 : kUn (T c) 0 N1 i j = if ncol i j < N1 then T c (0 + ncol i j) else 0 := rfl
    rw [e0]
    by_cases q : ncol i j < N1
    · rw [if_pos q, hT]
      show (if 0 + ncol i j < N1 then kc_mul (kUn c 0 N3) u (ndc (0 + ncol i j)).1 (ndc (0 + ncol i j)).2 else _) = _
      rw [Nat.zero_add, if_pos q, ndc_ncol]
    · rw [if_neg q]
      exact (cu c i j (Classical.byContradiction fun z => q (by rw [hN1]; exact ncol_lt (by omega)))).symm
  have T2 : ∀ c, kUn (T c) N1 N2 = fun i j => (-1) * kc_mul (kUn c 0 N3) w i j := fun c => funext fun i => funext fun j => by
    have e0 : kUn (T c) N1 N2 i j = if ncol i j < N2 then T c (N1 + ncol i j) else 0 := rfl
    rw [e0]
    by_cases q : ncol i j < N2
    · rw [if_pos q, hT]
      show (if N1 + ncol i j < N1 then _ else if N1 + ncol i j < N1 + N2 then (-1) * kc_mul (kUn c 0 N3) w (ndc (N1 + ncol i j - N1)).1 (ndc (N1 + ncol i j - N1)).2 else 0) = _
      rw [if_neg (by omega), if_pos (by omega), show N1 + ncol i j - N1 = ncol i j by omega, ndc_ncol]
    · rw [if_neg q, cw c i j (Classical.byContradiction fun z => q (by rw [hN2]; exact ncol_lt (by omega))), ka_mz]
  have lin := kl_lin_of T (by
    rw [hT]
    funext k
    have z : kUn (fun _ => (0 : K)) 0 N3 = fun _ _ => 0 := funext fun i => funext fun j => by
      unfold kUn
      split <;> rfl
    show (if k < N1 then kc_mul (kUn (fun _ => (0 : K)) 0 N3) u (ndc k).1 (ndc k).2 else if k < N1 + N2 then (-1) * kc_mul (kUn (fun _ => (0 : K)) 0 N3) w (ndc (k - N1)).1 (ndc (k - N1)).2 else 0) = 0
    rw [z, kc_zmul, kc_zmul, ka_mz]
    split
    · rfl
    · split <;> rfl) (fun v x c => by
    rw [hT]
    funext k
    show (if k < N1 then kc_mul (kUn (fun i => v i + c * x i) 0 N3) u (ndc k).1 (ndc k).2 else if k < N1 + N2 then (-1) * kc_mul (kUn (fun i => v i + c * x i) 0 N3) w (ndc (k - N1)).1 (ndc (k - N1)).2 else 0) = (if k < N1 then kc_mul (kUn v 0 N3) u (ndc k).1 (ndc k).2 else if k < N1 + N2 then (-1) * kc_mul (kUn v 0 N3) w (ndc (k - N1)).1 (ndc (k - N1)).2 else 0) + c * (if k < N1 then kc_mul (kUn x 0 N3) u (ndc k).1 (ndc k).2 else if k < N1 + N2 then (-1) * kc_mul (kUn x 0 N3) w (ndc (k - N1)).1 (ndc (k - N1)).2 else 0)
    rw [kUn_ac, kc_mul_ac, kc_mul_ac]
    by_cases q1 : k < N1
    · rw [if_pos q1, if_pos q1, if_pos q1]
    · rw [if_neg q1, if_neg q1, if_neg q1]
      by_cases q2 : k < N1 + N2
      · rw [if_pos q2, if_pos q2, if_pos q2]
        exact km_2 _ _ _
      · rw [if_neg q2, if_neg q2, if_neg q2, ka_mz, ka_az])
  refine kl_dim_iso T lin.1 (fun v hv => ⟨fun k hk => ?_, fun j => ?_⟩) (fun v hv hz => ?_) (fun x hx => ?_)
  · rw [hT]
    show (if k < N1 then _ else if k < N1 + N2 then _ else (0 : K)) = 0
    rw [if_neg (by omega), if_neg (by omega)]
  · unfold kp_T kp_w
    by_cases q : j < W
    · rw [if_pos q]
      unfold kvec
      dsimp only
      rw [T1, T2, kc_mul_c]
      have e1 : kc_mul (kc_mul (kUn v 0 N3) u) f = kc_mul (kc_mul (kUn v 0 N3) w) g := by
        rw [ef, eg, kc_mul_assoc, kc_mul_assoc, ← kc_mul_assoc u, ← kc_mul_assoc w, kc_mul_comm u hh, kc_mul_comm w hh, kc_mul_assoc hh u, kc_mul_assoc hh w, kc_mul_comm u w]
      rw [e1]
      exact km_3 _
    · rw [if_neg q]
  · have z1 : kc_mul (kUn v 0 N3) u = kc_mul (fun _ _ => 0) u := by
      rw [← T1 v]
      funext i j
      rw [kc_zmul]
      unfold kUn
      split
      · exact hz _
      · rfl
    have z2 := kc_canc hK (A := kUn v 0 N3) (B := fun _ _ => 0) ⟨dd + 1 + e - n - m, fun i j hij => cdg v i j hij⟩ ⟨0, fun _ _ _ => rfl⟩ u1 u2 z1
    intro k hk
    have z3 := congrFun (congrFun z2 (ndc k).1) (ndc k).2
    unfold kUn at z3
    rw [ncol_ndc, if_pos hk, Nat.zero_add] at z3
    exact z3
  · obtain ⟨x1, x2⟩ := hx
    have B1 : ∀ i j, dd + 1 - n ≤ i + j → kUn x 0 N1 i j = 0 := fun i j hij => if_neg (by
      have := ncol_ge (i := i) (j := j) hij
      omega)
    have B2 : ∀ i j, dd + 1 - m ≤ i + j → kUn x N1 N2 i j = 0 := fun i j hij => if_neg (by
      have := ncol_ge (i := i) (j := j) hij
      omega)
    have hs : ∀ i j, kc_mul (kUn x 0 N1) f i j + kc_mul (kUn x N1 N2) g i j = 0 := fun i j => by
      by_cases q : i + j < dd + 1
      · have := x2 (ncol i j)
        unfold kp_T kp_w at this
        rw [if_pos (by rw [hW]; exact ncol_lt q)] at this
        unfold kvec at this
        rw [ndc_ncol] at this
        exact this
      · have y1 : kc_mul (kUn x 0 N1) f i j = 0 := by
          by_cases z : dd + 1 - n = 0
          · have e : kUn x 0 N1 = fun _ _ => 0 := funext fun a => funext fun b => B1 a b (by omega)
            rw [e]; exact kc_zmul f i j
          · exact kc_zero (n := dd - n) (m := n) (fun a b hab => B1 a b (by omega)) f1 i j (by omega)
        have y2 : kc_mul (kUn x N1 N2) g i j = 0 := by
          by_cases z : dd + 1 - m = 0
          · have e : kUn x N1 N2 = fun _ _ => 0 := funext fun a => funext fun b => B2 a b (by omega)
            rw [e]; exact kc_zmul g i j
          · exact kc_zero (n := dd - m) (m := m) (fun a b hab => B2 a b (by omega)) g1 i j (by omega)
        rw [y1, y2, ka_az]
    obtain ⟨c, pc, c1, c2⟩ := al (kUn x 0 N1) (fun i j => (-1) * kUn x N1 N2 i j) ⟨dd + 1 - n, B1⟩ ⟨dd + 1 - m, fun i j hij => by
      show (-1) * kUn x N1 N2 i j = 0
      rw [B2 i j hij, ka_mz]⟩ (by
      rw [kc_mul_c]
      funext i j
      exact km_5 _ _ (hs i j))
    have cz : ∀ i j, dd + 1 + e - n - m ≤ i + j → c i j = 0 := fun i j hij => Classical.byContradiction fun q => by
      obtain ⟨nc, d1, d2⟩ := kc_ed pc ⟨i, j, q⟩
      obtain ⟨a, b, d3, d4⟩ := kc_exact hK d1 u1 d2 u2
      rw [← c1] at d4
      have d5 : a + b < dd + 1 - n := Classical.byContradiction fun z => d4 (B1 a b (by omega))
      have d6 : ¬ nc < i + j := fun z => q (d1 i j z)
      omega
    have cU : kUn (fun k => if k < N3 then c (ndc k).1 (ndc k).2 else 0) 0 N3 = c := funext fun i => funext fun j => by
      unfold kUn
      by_cases q : ncol i j < N3
      · rw [if_pos q, Nat.zero_add]
        show (if ncol i j < N3 then c (ndc (ncol i j)).1 (ndc (ncol i j)).2 else 0) = c i j
        rw [if_pos q, ndc_ncol]
      · rw [if_neg q]
        exact (cz i j (Classical.byContradiction fun z => q (by rw [hN3]; exact ncol_lt (by omega)))).symm
    refine ⟨fun k => if k < N3 then c (ndc k).1 (ndc k).2 else 0, fun k hk => if_neg (by omega), ?_⟩
    rw [hT]
    funext k
    show (if k < N1 then kc_mul (kUn (fun k => if k < N3 then c (ndc k).1 (ndc k).2 else 0) 0 N3) u (ndc k).1 (ndc k).2 else if k < N1 + N2 then (-1) * kc_mul (kUn (fun k => if k < N3 then c (ndc k).1 (ndc k).2 else 0) 0 N3) w (ndc (k - N1)).1 (ndc (k - N1)).2 else 0) = x k
    rw [cU, ← c1, ← c2]
    by_cases q1 : k < N1
    · rw [if_pos q1]
      unfold kUn
      rw [ncol_ndc, if_pos q1, Nat.zero_add]
    · rw [if_neg q1]
      by_cases q2 : k < N1 + N2
      · rw [if_pos q2]
        have e0 : kUn x N1 N2 (ndc (k - N1)).1 (ndc (k - N1)).2 = x k := by
          unfold kUn
          rw [ncol_ndc, if_pos (by omega), show N1 + (k - N1) = k by omega]
        show (-1) * ((-1) * kUn x N1 N2 (ndc (k - N1)).1 (ndc (k - N1)).2) = x k
        rw [e0]
        exact km_4 _
      · rw [if_neg q2, x1 k (by omega)]
end ZGn
