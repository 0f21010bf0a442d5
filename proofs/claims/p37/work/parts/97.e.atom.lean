section ZJe
/-- all levels, both -/
def zPg (p : Int) (o : Nat) (Q S : zS2) : Prop := S 0 19 = o ∧ o ≤ 40 ∧ (∀ k, k ≤ o → zLv p k Q S) ∧ ∀ k, k < o → Q 3 k = S 8 k
/-- what a SUM leaves, in the model and in the class -/
def zPf (S S' : zS2) : Prop := ∀ a i : Nat, ¬ (a = 0 ∧ ((6 ≤ i ∧ i ≤ 9) ∨ i = 19)) → a ≠ 4 → a ≠ 7 → a ≠ 8 → ¬ (a = 3 ∧ 300 ≤ i) → S' a i = S a i
def zQc (Q Q' : zS2) : Prop := Q' 0 4 = Q 0 4 ∧ ∀ k, k = 1 ∨ (7 ≤ k ∧ k ≤ 12) → Q' k = Q k
theorem zPf.rf {S : zS2} : zPf S S := fun _ _ _ _ _ _ _ => rfl
theorem zPf.tr {S S' S'' : zS2} (h : zPf S S') (h2 : zPf S' S'') : zPf S S'' := fun a i a1 a2 a3 a4 a5 => (h2 a i a1 a2 a3 a4 a5).trans (h a i a1 a2 a3 a4 a5)
theorem zQc.rf {Q : zS2} : zQc Q Q := ⟨rfl, fun _ _ => rfl⟩
theorem zQc.tr {Q Q' Q'' : zS2} (h : zQc Q Q') (h2 : zQc Q' Q'') : zQc Q Q'' := ⟨h2.1.trans h.1, fun k hk => (h2.2 k hk).trans (h.2 k hk)⟩
theorem zSf.pf {o : Nat} {S S' : zS2} (h : zSf o S S') : zPf S S' := fun a i a1 a2 a3 a4 a5 => h a i (by omega) (by omega) (by omega) a2 (by omega)
theorem zFs.pf {S S' : zS2} (h : zFs S S') : zPf S S' := fun a i a1 _ _ _ _ => h a i (by omega)
theorem zQf.qc {o : Nat} {Q Q' : zS2} (h : zQf o Q Q') (ho : o ≤ 40) : zQc Q Q' := ⟨h.2.1, fun k hk => h.2.2.1 k (by omega) (by omega) (by omega) (by omega) (by omega) (by omega) (by omega)⟩
theorem zPg.fr {p : Int} {o : Nat} {Q S Q' S' : zS2} (h : zPg p o Q S) (hQ : zQf o Q Q') (hS : zSf o S S') (hL : zLv p o Q' S') : zPg p o Q' S' := ⟨by rw [hS 0 19 (by omega) (by omega) (by omega) (by omega) (by omega)]; exact h.1, h.2.1, fun k hk => by
  by_cases e : k = o
  · rw [e]; exact hL
  · exact (h.2.2.1 k hk).fr e (by have := h.2.1; omega) h.2.1 hQ hS, fun k hk => by
  rw [hQ.2.2.1 3 (by omega) (by omega) (by omega) (by omega) (by omega) (by omega) (by omega), hS 8 k (by omega) (by omega) (by omega) (by omega) (by omega)]
  exact h.2.2.2 k hk⟩
theorem zLv.sc {p : Int} {o : Nat} {Q S Q' S' : zS2} (h : zLv p o Q S) (hQ : ∀ k, k = 2 ∨ k = 20 + o ∨ k = 70 + o → Q' k = Q k) (hS : ∀ a i : Nat, (a = 7 ∧ i = o) ∨ (a = 3 ∧ 25 * (12 + 3 * o) ≤ i ∧ i < 25 * (12 + 3 * o) + 50) → S' a i = S a i) : zLv p o Q' S' := by
  obtain ⟨⟨a1, a2, a3⟩, ⟨b1, b2, b3⟩, c⟩ := h
  have e1 := hQ (20 + o) (by omega)
  have e2 := hQ (70 + o) (by omega)
  refine ⟨⟨?_, by rw [e1]; exact a2, by rw [e1]; exact a3⟩, ⟨?_, by rw [e2]; exact b2, by rw [e2]; exact b3⟩, ?_⟩
  · rw [e1]; exact a1.fr (fun i h1 h2 => hS 3 i (by omega))
  · rw [e2]; exact b1.fr (fun i h1 h2 => hS 3 i (by omega))
  · rw [hQ 2 (by omega), hS 7 o (by omega)]; exact c
end ZJe
