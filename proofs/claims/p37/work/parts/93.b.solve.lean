section ZFb
/-- the solutions -/
def zSol {K : Type} [Lean.Grind.CommRing K] (φ : Int → K) (X : zS2) (eqs many : Nat) (x : Nat → K) : Prop := ∀ r, r < eqs → ka_s (fun k => φ (zMx X r k) * x k) many = 0
/-- while columns are cleared -/
def zGJ {K : Type} [Lean.Grind.CommRing K] (φ : Int → K) (S0 : zS2) (p : Int) (eqs many c dn : Nat) (X : zS2) : Prop := (∀ a i : Nat, a ≠ 14 → a ≠ 15 → X a i = S0 a i) ∧ zMc X p ∧ dn ≤ eqs ∧ (∀ k, k < c → X 15 k = -1 ∨ ∃ r : Nat, X 15 k = r ∧ r < dn ∧ zMx X r k = 1 ∧ ∀ o, o < eqs → o ≠ r → zMx X o k = 0) ∧ (∀ r, r < dn → ∃ k, k < c ∧ X 15 k = r) ∧ (∀ k, k < c → X 15 k = -1 → ∀ r, dn ≤ r → r < eqs → zMx X r k = 0) ∧ (∀ k k', k < c → k' < c → X 15 k = X 15 k' → X 15 k ≠ -1 → k = k') ∧ ∀ x, zSol φ X eqs many x ↔ zSol φ S0 eqs many x
end ZFb
