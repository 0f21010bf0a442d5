section ZJg
theorem ztk_e {n : Int} {T : Nat → Int} {Q : zS2} (sg : Int) : ∃ Q', ztk n T sg Q = (if zby n T (zsk n T (Q 0 0)) = sg then 1 else 0, Q') ∧ Q' 0 0 = (if zby n T (zsk n T (Q 0 0)) = sg then zsk n T (Q 0 0) + 1 else zsk n T (Q 0 0)) ∧ (∀ j, 3 ≤ j → Q' 0 j = Q 0 j) ∧ ∀ k, k ≠ 0 → Q' k = Q k := by
  unfold ztk zskS
  by_cases c : zby n T (zsk n T (Q 0 0)) = sg
  · rw [if_pos c, if_pos c, if_pos c]
    obtain ⟨r1, r2, r3, r4, r5⟩ := zsr_0 Q (zsk n T (Q 0 0) + 1) (Q 0 1) (Q 0 2)
    exact ⟨_, rfl, r1, r4, r5⟩
  · rw [if_neg c, if_neg c, if_neg c]
    obtain ⟨r1, r2, r3, r4, r5⟩ := zsr_0 Q (zsk n T (Q 0 0)) (Q 0 1) (Q 0 2)
    exact ⟨_, rfl, r1, r4, r5⟩
/-- what follows, both -/
def zGo (n : Int) (T : Nat → Int) (p : Int) (Q S : zS2) (C : Int × Int × Nat × zS2) (M : Int × zS2) : Prop :=
  (∃ o' Q' S', C = (1, 0, o', Q') ∧ M = (1, S') ∧ zPs n T p Q' S' ∧ zPg p o' Q' S' ∧ zop n T (Q' 0 0) ∧ Q 0 0 < Q' 0 0 ∧ zQc Q Q' ∧ zPf S S') ∨
  (∃ w Q' S', C = (0, 0, w, Q') ∧ M = (0, S') ∧ zFl Q' S' ∧ zPf S S') ∨
  (∃ Q' S', C = (0, 1, 0, Q') ∧ M = (0, S') ∧ zPs n T p Q' S' ∧ Q 0 0 ≤ Q' 0 0 ∧ zgE S' 12 (Q' 20) ∧ zcan p (Q' 20) ∧ zflt (Q' 20) ∧ zQc Q Q' ∧ zPf S S')
/-- the answer of the model's loop -/
def zgo1 (x : (Int × zS2) ⊕ zS2) : Int × zS2 := zsum x (fun r2 => r2) (fun S2 => (0, S2))
theorem zGo.up {n p : Int} {T : Nat → Int} {Q S Q1 S1 : zS2} {C : Int × Int × Nat × zS2} {M : Int × zS2} (h : zGo n T p Q1 S1 C M) (h0 : Q 0 0 ≤ Q1 0 0) (hQ : zQc Q Q1) (hS : zPf S S1) : zGo n T p Q S C M := by
  rcases h with ⟨o', Q', S', a1, a2, a3, a4, a5, a6, a7, a8⟩ | ⟨w, Q', S', a1, a2, a3, a4⟩ | ⟨Q', S', a1, a2, a3, a4, a5, a6, a7, a8, a9⟩
  · exact Or.inl ⟨o', Q', S', a1, a2, a3, a4, a5, by omega, hQ.tr a7, hS.tr a8⟩
  · exact Or.inr (Or.inl ⟨w, Q', S', a1, a2, a3, hS.tr a4⟩)
  · exact Or.inr (Or.inr ⟨Q', S', a1, a2, a3, by omega, a5, a6, a7, hQ.tr a8, hS.tr a9⟩)
end ZJg
