section ZFa
/-- the matrix of the model -/
def zMx (X : zS2) (r c : Nat) : Int := X 14 (30 * r + c)
def zMc (X : zS2) (p : Int) : Prop := ∀ r c : Nat, r < 45 → c < 30 → 0 ≤ zMx X r c ∧ zMx X r c < p
/-- all but the matrix -/
def zMf (X Y : zS2) : Prop := ∀ a i : Nat, a ≠ 14 → Y a i = X a i
end ZFa
