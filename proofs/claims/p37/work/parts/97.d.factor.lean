section ZJd
theorem zmS_5 (Q : zS2) {c d : Nat} (h : ¬ zmuc (Q c) (Q d)) (hc : c ≠ 6) : (zmS Q c d) c = zprod (Q c) (Q d) (Q 0 3) ∧ ∀ k, k ≠ c → k ≠ 6 → (zmS Q c d) k = Q k := by
  unfold zmS
  refine ⟨?_, fun k h1 h2 => ?_⟩
  · rw [zset_self]
    unfold zmuP
    rw [if_neg h]
  · rw [zset_ne _ _ h1, zset_ne _ _ h2]
theorem zmS_fr (Q : zS2) {c d : Nat} : ∀ k, k ≠ c → k ≠ 6 → (zmS Q c d) k = Q k := fun k h1 h2 => by
  unfold zmS
  rw [zset_ne _ _ h1, zset_ne _ _ h2]
/-- both failed, with one fault -/
def zFl (Q' S' : zS2) : Prop := ¬ S' 0 8 = 0 ∧ Q' 0 1 = S' 0 8 ∧ Q' 0 2 = S' 0 9
theorem zFl_of {S' : zS2} {k a : Int} (h8 : S' 0 8 = k) (h9 : S' 0 9 = a) (hk : k ≠ 0) (Q : zS2) : zFl (zfl k a Q) S' := by
  obtain ⟨_, r2, r3, _⟩ := zsr_0 Q (Q 0 0) k a
  exact ⟨by rw [h8]; exact hk, by rw [h8]; exact r2, by rw [h9]; exact r3⟩
end ZJd
