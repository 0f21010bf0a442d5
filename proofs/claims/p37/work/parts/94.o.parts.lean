section ZGo
def kp_G {K : Type} [Lean.Grind.CommRing K] (W N1 N2 : Nat) (f g : Nat → Nat → K) (w : Nat → K) : Prop := ∃ x : Nat → K, (∀ k, N1 + N2 ≤ k → x k = 0) ∧ kp_T W N1 N2 f g x = w
theorem kp_G_C {K : Type} [Lean.Grind.CommRing K] (W N1 N2 : Nat) (f g : Nat → Nat → K) : kp_C (kp_G W N1 N2 f g) := ⟨⟨fun _ => 0, fun _ _ => rfl, kp_T_0 _ _ _ _ _⟩, fun v w c ⟨x, x1, x2⟩ ⟨y, y1, y2⟩ => ⟨fun k => x k + c * y k, fun k hk => by
  show x k + c * y k = 0
  rw [x1 k hk, y1 k hk, ka_mz, ka_az], by rw [kp_T_ac, x2, y2]⟩⟩
theorem kUn_e {K : Type} [Lean.Grind.CommRing K] (i j off N : Nat) (h : ncol i j < N) : kUn (kl_e (K := K) (off + ncol i j)) off N = kc_t 1 i j := funext fun a => funext fun b => by
  unfold kUn kl_e kc_t
  by_cases e : a = i ∧ b = j
  · rw [e.1, e.2, if_pos h, if_pos rfl, if_pos ⟨rfl, rfl⟩]
  · rw [if_neg e]
    by_cases q : ncol a b < N
    · rw [if_pos q, if_neg (fun z => e (ncol_inj (by omega)))]
    · rw [if_neg q]
theorem kUn_e0 {K : Type} [Lean.Grind.CommRing K] (t off N : Nat) (h : t < off ∨ off + N ≤ t) : kUn (kl_e (K := K) t) off N = fun _ _ => 0 := funext fun a => funext fun b => by
  unfold kUn kl_e
  by_cases q : ncol a b < N
  · rw [if_pos q, if_neg (by omega)]
  · rw [if_neg q]
theorem kp_G_f {K : Type} [Lean.Grind.CommRing K] (W N1 N2 : Nat) (f g : Nat → Nat → K) {i j : Nat} (h : ncol i j < N1) : kp_G W N1 N2 f g (kp_w W (kc_mul (kc_t 1 i j) f)) := ⟨kl_e (0 + ncol i j), fun k hk => by
  unfold kl_e
  rw [if_neg (by omega)], by
  unfold kp_T
  rw [kUn_e i j 0 N1 h, kUn_e0 _ N1 N2 (by omega)]
  refine congrArg (kp_w W) (funext fun a => funext fun b => ?_)
  rw [kc_zmul, ka_az]⟩
theorem kp_G_g {K : Type} [Lean.Grind.CommRing K] (W N1 N2 : Nat) (f g : Nat → Nat → K) {i j : Nat} (h : ncol i j < N2) : kp_G W N1 N2 f g (kp_w W (kc_mul (kc_t 1 i j) g)) := ⟨kl_e (N1 + ncol i j), fun k hk => by
  unfold kl_e
  rw [if_neg (by omega)], by
  unfold kp_T
  rw [kUn_e i j N1 N2 h, kUn_e0 _ 0 N1 (by omega)]
  refine congrArg (kp_w W) (funext fun a => funext fun b => ?_)
  rw [kc_zmul, Lean.Grind.AddCommMonoid.add_comm, ka_az]⟩
theorem kp_G_sp {K : Type} [Lean.Grind.CommRing K] {W N1 N2 : Nat} {f g : Nat → Nat → K} {x : Nat → Nat → K} {n : Nat} (hf : ∀ c, c < N1 → kl_sp x n (kp_w W (kc_mul (kc_t 1 (ndc c).1 (ndc c).2) f))) (hg : ∀ c, c < N2 → kl_sp x n (kp_w W (kc_mul (kc_t 1 (ndc c).1 (ndc c).2) g))) {v : Nat → K} (hv : kp_G W N1 N2 f g v) : kl_sp x n v := by
  obtain ⟨y, _, y2⟩ := hv
  have s1 := kl_sp_sum (x := x) (n := n) (fun c => y (0 + c)) (fun c => kp_w W (kc_mul (kc_t 1 (ndc c).1 (ndc c).2) f)) N1 hf
  have s2 := kl_sp_sum (x := x) (n := n) (fun c => y (N1 + c)) (fun c => kp_w W (kc_mul (kc_t 1 (ndc c).1 (ndc c).2) g)) N2 hg
  have s3 := kl_sp_add s1 s2 1
  have e : (fun i => ka_s (fun t => y (0 + t) * kp_w W (kc_mul (kc_t 1 (ndc t).1 (ndc t).2) f) i) N1 + 1 * ka_s (fun t => y (N1 + t) * kp_w W (kc_mul (kc_t 1 (ndc t).1 (ndc t).2) g) i) N2) = v := by
    rw [← y2]
    funext k
    unfold kp_T kp_w
    rw [ka_om]
    by_cases q : k < W
    · rw [if_pos q]
      have e1 := kUn_sum y 0 N1 f k
      have e2 := kUn_sum y N1 N2 g k
      have e3 : kvec (fun i j => kc_mul (kUn y 0 N1) f i j + kc_mul (kUn y N1 N2) g i j) k = kvec (kc_mul (kUn y 0 N1) f) k + kvec (kc_mul (kUn y N1 N2) g) k := rfl
      rw [e3, ← e1, ← e2]
      refine congr (congrArg _ (ka_s_congr _ (fun t _ => ?_))) (ka_s_congr _ (fun t _ => ?_))
      · rw [if_pos q]; exact Lean.Grind.CommSemiring.mul_comm _ _
      · rw [if_pos q]; exact Lean.Grind.CommSemiring.mul_comm _ _
    · rw [if_neg q, ka_s_zero _ (fun t _ => by rw [if_neg q, ka_mz]), ka_s_zero _ (fun t _ => by rw [if_neg q, ka_mz]), ka_az]
  rw [← e]
  exact s3
/-- the rank of the multiples -/
theorem kp_rank {K : Type} [Lean.Grind.CommRing K] (hK : ka_F K) {f g u w hh : Nat → Nat → K} (hU : kUW f g u w hh) {n m e nu nw dd W c : Nat} (em : nu + e = m) (en : nw + e = n) (f1 : ∀ i j, n < i + j → f i j = 0) (g1 : ∀ i j, m < i + j → g i j = 0) (u1 : ∀ i j, nu < i + j → u i j = 0) (u2 : ∃ i j, i + j = nu ∧ u i j ≠ 0) (w1 : ∀ i j, nw < i + j → w i j = 0) (hW : W = nT (dd + 1)) (hc : kl_dim (kp_G W (nT (dd + 1 - n)) (nT (dd + 1 - m)) f g) c) : c + nT (dd + 1 + e - n - m) = nT (dd + 1 - n) + nT (dd + 1 - m) := by
  have lin := kl_lin_of (kp_T W (nT (dd + 1 - n)) (nT (dd + 1 - m)) f g) (kp_T_0 _ _ _ _ _) (kp_T_ac _ _ _ _ _)
  exact kl_rn hK (U := fun v : Nat → K => ∀ k, nT (dd + 1 - n) + nT (dd + 1 - m) ≤ k → v k = 0) (W := kp_G W (nT (dd + 1 - n)) (nT (dd + 1 - m)) f g) (kp_T W (nT (dd + 1 - n)) (nT (dd + 1 - m)) f g) lin.1 (kl_dim_e _) (fun c F m hF k hk => ka_s_zero _ (fun t ht => by rw [hF t ht k hk, ka_mz])) (fun v w hv hw k hk => by
    show v k - w k = 0
    rw [hv k hk, hw k hk]
    exact ka_xx _) lin.2 (kp_ker hK hU em en f1 g1 u1 u2 w1 hW) (fun v => Iff.rfl) hc (fun w => Iff.rfl)
end ZGo
