section ZJl
/-- a CURVE, both -/
def zCu (n : Int) (T : Nat → Int) (p : Int) (Q S : zS2) (C : Int × zS2) (M : zS2) : Prop := zDf S M ∧ ((C.1 = 0 ∧ zFl C.2 M) ∨ (C.1 = 1 ∧ zPs n T p C.2 M ∧ Q 0 0 < C.2 0 0 ∧ zop n T (C.2 0 0) ∧ zDr p C.2 M))
end ZJl
