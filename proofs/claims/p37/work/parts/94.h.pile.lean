section ZGh
/-- the line that is to be piled, and the lines of the pile -/
def kp_v {K : Type} [Lean.Grind.CommRing K] (φ : Int → K) (W : Nat) (S : zS2) : Nat → K := fun k => if k < W then φ (S 12 k) else 0
def kp_x {K : Type} [Lean.Grind.CommRing K] (φ : Int → K) (W : Nat) (S : zS2) (r : Nat) : Nat → K := fun k => if k < W then φ (S 10 (325 * r + k)) else 0
/-- a pile of n lines -/
def kp_E {K : Type} [Lean.Grind.CommRing K] (φ : Int → K) (p : Int) (W n : Nat) (S : zS2) : Prop := S 0 10 = p ∧ S 0 24 = W ∧ S 0 23 = n ∧ (∀ c : Nat, c < W → S 11 c = -1 ∨ ∃ r : Nat, r < n ∧ S 11 c = r ∧ φ (S 10 (325 * r + c)) = 1 ∧ ∀ k : Nat, k < c → φ (S 10 (325 * r + k)) = 0) ∧ (∀ r : Nat, r < n → ∃ c : Nat, c < W ∧ S 11 c = r) ∧ (∀ r k : Nat, r < n → k < W → 0 ≤ S 10 (325 * r + k) ∧ S 10 (325 * r + k) < p) ∧ kl_fr (kp_x φ W S) n
theorem kp_E.same {K : Type} [Lean.Grind.CommRing K] {φ : Int → K} {p : Int} {W n : Nat} {S T : zS2} (h : kp_E φ p W n S) (h0 : ∀ a i : Nat, a = 10 ∨ a = 11 ∨ (a = 0 ∧ (i = 10 ∨ i = 23 ∨ i = 24)) → T a i = S a i) : kp_E φ p W n T := by
  obtain ⟨a1, a2, a3, a4, a5, a6, a7⟩ := h
  have ex : kp_x φ W T = kp_x φ W S := funext fun r => funext fun k => by
    unfold kp_x
    rw [h0 10 _ (by omega)]
  refine ⟨by rw [h0 0 10 (by omega), a1], by rw [h0 0 24 (by omega), a2], by rw [h0 0 23 (by omega), a3], fun c hc => ?_, fun r hr => ?_, fun r k hr hk => ?_, by rw [ex]; exact a7⟩
  · rw [h0 11 c (by omega)]
    rcases a4 c hc with z | ⟨r, z1, z2, z3, z4⟩
    · exact Or.inl z
    · exact Or.inr ⟨r, z1, z2, by rw [h0 10 _ (by omega)]; exact z3, fun k hk => by rw [h0 10 _ (by omega)]; exact z4 k hk⟩
  · obtain ⟨c, c1, c2⟩ := a5 r hr
    exact ⟨c, c1, by rw [h0 11 c (by omega)]; exact c2⟩
  · rw [h0 10 _ (by omega)]
    exact a6 r k hr hk
end ZGh
