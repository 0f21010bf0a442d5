section ZMv
def zFrP (f g : Nat → va_E) (e : Nat) : Prop := ∀ x, ¬ (e < x ∧ x < e + 20 ∧ (x - e) % 4 = 1) → g x = f x
end ZMv
