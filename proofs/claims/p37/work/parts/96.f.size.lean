section ZIf
theorem kz_V_C {K : Type} [Lean.Grind.CommRing K] (F G : Nat → Nat → K) : kp_C (kz_V F G) := ⟨⟨fun _ _ => 0, fun _ _ => 0, funext fun k => by
  rw [show (fun i j => kc_mul (fun _ _ => 0) F i j + kc_mul (fun _ _ => 0) G i j) = fun _ _ => (0 : K) from funext fun i => funext fun j => by rw [kc_zmul, kc_zmul, ka_az], kp_wz]⟩, fun v w c ⟨A, B, e⟩ ⟨A', B', e'⟩ => ⟨fun i j => A i j + c * A' i j, fun i j => B i j + c * B' i j, funext fun k => by
  rw [e, e', kc_mul_ac, kc_mul_ac]
  show kp_w 153 (fun i j => kc_mul A F i j + kc_mul B G i j) k + c * kp_w 153 (fun i j => kc_mul A' F i j + kc_mul B' G i j) k = _
  rw [← kp_wac]
  exact congrFun (congrArg (kp_w 153) (funext fun i => funext fun j => kr_4 _ _ _ _ _)) k⟩⟩
/-- what all TERMS' multiples make -/
theorem kz_gen {K : Type} [Lean.Grind.CommRing K] {F G : Nat → Nat → K} {x : Nat → Nat → K} {n : Nat} (hF : ∀ i j, i + j ≤ 16 → kl_sp x n (kp_w 153 (kc_mul (kc_t 1 i j) F))) (hG : ∀ i j, i + j ≤ 16 → kl_sp x n (kp_w 153 (kc_mul (kc_t 1 i j) G))) {v : Nat → K} (hv : kz_V F G v) : kl_sp x n v := by
  have one : ∀ (A F : Nat → Nat → K), (∀ i j, i + j ≤ 16 → kl_sp x n (kp_w 153 (kc_mul (kc_t 1 i j) F))) → kl_sp x n (kp_w 153 (kc_mul A F)) := fun A F hF => by
    obtain ⟨D, hD⟩ : ∃ D : Nat → Nat → K, D = fun i j => if ncol i j < 153 then A i j else 0 := ⟨_, rfl⟩
    have s := kl_sp_sum (x := x) (n := n) (fun s => A (ndc s).1 (ndc s).2) (fun s => kp_w 153 (kc_mul (kc_t 1 (ndc s).1 (ndc s).2) F)) 153 (fun s hs => hF _ _ (by
      have := ndc_dg (k := s) (d := 17) (by rw [kz_T17.1]; exact hs)
      omega))
    refine (congrArg (kl_sp x n) (funext fun k => ?_)).mp s
    rw [kz_wsum]
    refine congrFun (kz_w (fun i j hij => ?_)) k
    rw [kz_lo (d := 17) (F := A) (F' := D) (fun a b hab => by
      have := ncol_lt hab
      rw [kz_T17.1] at this
      rw [hD]
      exact (if_pos this).symm) (fun _ _ _ => rfl) i j hij, kc_sum_t (P := D) (N := 153) F (fun a b hab => by rw [hD]; exact if_neg (by omega))]
    refine ka_s_congr _ (fun s hs => ?_)
    rw [hD]
    show _ = (if ncol (ndc s).1 (ndc s).2 < 153 then A (ndc s).1 (ndc s).2 else 0) * _
    rw [ncol_ndc, if_pos hs]
  obtain ⟨A, B, e⟩ := hv
  have s := kl_sp_add (one A F hF) (one B G hG) 1
  refine (congrArg (kl_sp x n) (funext fun k => ?_)).mp s
  rw [e, ← kp_wac]
  exact congrFun (congrArg (kp_w 153) (funext fun i => funext fun j => by rw [ka_om])) k
end ZIf
