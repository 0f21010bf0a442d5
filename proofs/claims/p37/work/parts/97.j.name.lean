section ZJj
/-- the curves that are read, both -/
def zDr (p : Int) (Q S : zS2) : Prop := S 0 15 = Q 0 4 ∧ (0 ≤ Q 0 4 ∧ Q 0 4 ≤ 6) ∧ ∀ c : Nat, (c : Int) < Q 0 4 → (zgE S (6 + c) (Q (7 + c)) ∧ zcan p (Q (7 + c)) ∧ zflt (Q (7 + c)) ∧ 0 < ztop (Q (7 + c))) ∧ (∀ i : Nat, i < 6 → zlt5 (S 5 (6 + c)) (5 * i) = Q 1 (6 * c + i)) ∧ 0 ≤ S 5 (6 + c) ∧ S 5 (6 + c) < 1073741824
theorem zDr.fr {p : Int} {Q S Q' S' : zS2} (h : zDr p Q S) (hQ : zQc Q Q') (hS : zPf S S') : zDr p Q' S' := by
  obtain ⟨a, b, c⟩ := h
  have f5 : ∀ i, S' 5 i = S 5 i := fun i => hS 5 i (by omega) (by omega) (by omega) (by omega) (by omega)
  refine ⟨by rw [hS 0 15 (by omega) (by omega) (by omega) (by omega) (by omega), hQ.1]; exact a, by rw [hQ.1]; exact b, fun k hk => ?_⟩
  rw [hQ.1] at hk
  obtain ⟨⟨c1, c2, c3, c4⟩, c5, c6, c7⟩ := c k hk
  have q := hQ.2 (7 + k) (by omega)
  refine ⟨⟨?_, by rw [q]; exact c2, by rw [q]; exact c3, by rw [q]; exact c4⟩, fun i hi => ?_, by rw [f5]; exact c6, by rw [f5]; exact c7⟩
  · rw [q]
    exact c1.fr (fun i h1 h2 => hS 3 i (by omega) (by omega) (by omega) (by omega) (by omega))
  · rw [f5, hQ.2 1 (by omega)]
    exact c5 i hi
theorem zwe_1 {n : Int} {T : Nat → Int} {a : Int} (h : 97 ≤ zby n T a ∧ zby n T a ≤ 122) : a + 1 ≤ zwe n T a := by
  have ain := zby_in (n := n) (T := T) (a := a) (by omega)
  unfold zwe
  rw [zweF_s T ain.2, if_pos h]
  exact (zweF_rng (n := n) (T := T) _ _).1
theorem zwe_0 {n : Int} {T : Nat → Int} {a : Int} (h : ¬ (97 ≤ zby n T a ∧ zby n T a ≤ 122)) : zwe n T a = a := by
  unfold zwe
  cases hk : (n - a).toNat with
  | zero => rfl
  | succ k =>
    simp only [zweF]
    rw [if_neg h]
/-- a NAME, both -/
def zNm (n : Int) (T : Nat → Int) (p b : Int) (Q S : zS2) (C N : Int × zS2) (S' : zS2) : Prop := zFs S S' ∧ ((C.1 = 0 ∧ zFl C.2 S') ∨ (C.1 = 1 ∧ zPs n T p C.2 S' ∧ b ≤ C.2 0 0 ∧ N.2 0 7 = b ∧ (∀ j, 3 ≤ j → C.2 0 j = Q 0 j) ∧ (∀ k, k ≠ 0 → k ≠ 1 → C.2 k = Q k) ∧ (∀ q : Nat, (q : Int) < 6 * Q 0 4 → C.2 1 q = Q 1 q) ∧ (∀ i : Nat, i < 6 → zlt5 N.1 (5 * i) = C.2 1 (6 * (Q 0 4).toNat + i)) ∧ 0 ≤ N.1 ∧ N.1 < 1073741824))
end ZJj
