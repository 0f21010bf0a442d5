section ZJh
/-- a SUM, both -/
def zSu (n : Int) (T : Nat → Int) (p : Int) (Q S : zS2) (C : Int × zS2) (S' : zS2) : Prop :=
  (C.1 = 0 ∧ zFl C.2 S' ∧ zPf S S') ∨
  (C.1 = 1 ∧ zPs n T p C.2 S' ∧ Q 0 0 ≤ C.2 0 0 ∧ zgE S' 12 (C.2 20) ∧ zcan p (C.2 20) ∧ zflt (C.2 20) ∧ zQc Q C.2 ∧ zPf S S')
theorem zSu.up {n p : Int} {T : Nat → Int} {Q S Q1 S1 S' : zS2} {C : Int × zS2} (h : zSu n T p Q1 S1 C S') (h0 : Q 0 0 ≤ Q1 0 0) (hQ : zQc Q Q1) (hS : zPf S S1) : zSu n T p Q S C S' := by
  rcases h with ⟨a1, a2, a3⟩ | ⟨a1, a2, a3, a4, a5, a6, a7, a8⟩
  · exact Or.inl ⟨a1, a2, hS.tr a3⟩
  · exact Or.inr ⟨a1, a2, by omega, a4, a5, a6, hQ.tr a7, hS.tr a8⟩
end ZJh
