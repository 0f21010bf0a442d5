section ZGi
/-- what a pile makes begins where a line of it begins -/
theorem kp_lead {K : Type} [Lean.Grind.CommRing K] {p : Int} {φ : Int → K} (hK : ka_F K) {W n : Nat} {S : zS2} (hE : kp_E φ p W n S) {v : Nat → K} (hv : kl_sp (kp_x φ W S) n v) {q : Nat} (hq : q < W) (h0 : ∀ k, k < q → v k = 0) (h1 : v q ≠ 0) : S 11 q ≠ -1 := by
  obtain ⟨a1, a2, a3, a4, a5, a6, a7⟩ := hE
  obtain ⟨a, ha⟩ := hv
  have L : ∀ r : Nat, r < n → ∃ c : Nat, c < W ∧ S 11 c = r ∧ kp_x φ W S r c = 1 ∧ ∀ k, k < c → kp_x φ W S r k = 0 := fun r hr => by
    obtain ⟨c, c1, c2⟩ := a5 r hr
    rcases a4 c c1 with z | ⟨r', r1, r2, r3, r4⟩
    · rw [c2] at z; omega
    · have e : r' = r := by rw [c2] at r2; omega
      rw [e] at r3 r4
      refine ⟨c, c1, c2, ?_, fun k hk => ?_⟩
      · unfold kp_x
        rw [if_pos c1]; exact r3
      · unfold kp_x
        rw [if_pos (by omega)]; exact r4 k hk
  have az : ∀ c : Nat, c < q → ∀ r : Nat, r < n → S 11 c = r → a r = 0 := by
    intro c
    induction c using Nat.strongRecOn with
    | _ c ih =>
      intro hc r hr hcr
      obtain ⟨c', c1, c2, c3, c4⟩ := L r hr
      have e := ha c
      rw [h0 c hc] at e
      rw [ka_s_one (k := r) n hr (fun s hs hne => by
        obtain ⟨cs, d1, d2, d3, d4⟩ := L s hs
        rcases Nat.lt_trichotomy cs c with l | l | l
        · rw [ih cs l (by omega) s hs d2, ka_zm]
        · rw [l, hcr] at d2; omega
        · rw [d4 c l, ka_mz])] at e
      rcases a4 c (by omega) with z | ⟨r', r1, r2, r3, r4⟩
      · rw [hcr] at z; omega
      · have er : r' = r := by rw [hcr] at r2; omega
        have one : kp_x φ W S r c = 1 := by
          unfold kp_x
          rw [if_pos (by omega), ← er]; exact r3
        rw [one] at e
        have e2 : a r * 1 = 0 := e.symm
        rw [← e2]
        exact (Lean.Grind.Semiring.mul_one _).symm
  intro z
  apply h1
  rw [ha q]
  refine ka_s_zero _ (fun s hs => ?_)
  obtain ⟨cs, d1, d2, d3, d4⟩ := L s hs
  rcases Nat.lt_trichotomy cs q with l | l | l
  · rw [az cs l s hs d2, ka_zm]
  · rw [l, z] at d2; omega
  · rw [d4 q l, ka_mz]
theorem kl_sp_congr {K I : Type} [Lean.Grind.CommRing K] {x y : Nat → I → K} {n : Nat} {v : I → K} (h : kl_sp x n v) (e : ∀ t, t < n → x t = y t) : kl_sp y n v := by
  obtain ⟨a, ha⟩ := h
  exact ⟨a, fun i => by rw [ha i]; exact ka_s_congr _ (fun t ht => by rw [e t ht])⟩
theorem kl_fr_congr {K I : Type} [Lean.Grind.CommRing K] {x y : Nat → I → K} {n : Nat} (h : kl_fr x n) (e : ∀ t, t < n → x t = y t) : kl_fr y n := fun a ha t ht => h a (fun i => by
  rw [← ha i]
  exact ka_s_congr _ (fun t ht => by rw [e t ht])) t ht
end ZGi
