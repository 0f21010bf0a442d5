section ZGl
theorem kp_I.mono {K : Type} [Lean.Grind.CommRing K] {φ : Int → K} {p : Int} {W : Nat} {G H H2 : (Nat → K) → Prop} {S : zS2} (h : kp_I φ p W G H S) (hh : ∀ v, H2 v → H v) : kp_I φ p W G H2 S := by
  obtain ⟨n, h1, h2, h3⟩ := h
  exact ⟨n, h1, h2, fun v hv => h3 v (hh v hv)⟩
end ZGl
