section ZIh
theorem kG8_C {K : Type} [Lean.Grind.CommRing K] (N1 N2 : Nat) (f g : Nat → Nat → K) : kp_C (kG8 N1 N2 f g) := by
  have GC := kp_G_C 325 N1 N2 f g
  refine ⟨⟨_, fun _ _ => 0, GC.1, fun _ _ _ => rfl, funext fun k => by rw [kp_wz, ka_az]⟩, fun v w c ⟨u, P, a1, a2, a3⟩ ⟨u', P', b1, b2, b3⟩ => ⟨_, fun i j => P i j + c * P' i j, GC.2 _ _ c a1 b1, fun i j hij => ?_, funext fun k => ?_⟩⟩
  · show P i j + c * P' i j = 0
    rw [a2 i j hij, b2 i j hij, ka_mz, ka_az]
  · rw [a3, b3, kp_wac]
    show u k + kp_w 325 P k + c * (u' k + kp_w 325 P' k) = u k + c * u' k + (kp_w 325 P k + c * kp_w 325 P' k)
    generalize kp_w 325 P k = z1
    generalize kp_w 325 P' k = z2
    generalize u k = z3
    generalize u' k = z4
    clear a3 b3
    grind
end ZIh
