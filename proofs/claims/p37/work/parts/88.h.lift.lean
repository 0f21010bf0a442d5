section ZMm
theorem zBx_app {M : zCt} (h : zBx M) (x : Int) : zBx (zw_append M x) := by
  have r : ∀ k i : Nat, k ≠ 2 → ¬ (k = 0 ∧ i = 2) → (zw_append M x).1 k i = M.1 k i := fun k i h1 h3 => by
    show zset (za M.1 0 2 _) 2 _ k i = _
    rw [zset_ne _ _ h1, za_ne h3]
  exact h.same (r 0 3 (by omega) (by omega)) (r 0 4 (by omega) (by omega)) (r 0 5 (by omega) (by omega)) (r 0 6 (by omega) (by omega)) (funext fun i => r 41 i (by omega) (by omega)) rfl rfl
theorem zBx_len {M : zCt} (h : zBx M) (x : Int) : zBx (zw_len M x) := by
  have r : ∀ k i : Nat, ¬ (k = 0 ∧ i = 2) → (zw_len M x).1 k i = M.1 k i := fun k i h3 => za_ne h3
  exact h.same (r 0 3 (by omega)) (r 0 4 (by omega)) (r 0 5 (by omega)) (r 0 6 (by omega)) (funext fun i => r 41 i (by omega)) rfl rfl
theorem zBx_ref {M : zCt} (h : zBx M) (k : Nat) (x : Int) : zBx (zw_ref M k x) := by
  have r : ∀ a i : Nat, a ≠ 1 → (zw_ref M k x).1 a i = M.1 a i := fun a i h3 => za_ne (fun q => h3 q.1)
  exact h.same (r 0 3 (by omega)) (r 0 4 (by omega)) (r 0 5 (by omega)) (r 0 6 (by omega)) (funext fun i => r 41 i (by omega)) rfl rfl
theorem zBx_refuse {M : zCt} (h : zBx M) (k : Int) : zBx (zc_refuse M k) := by
  unfold zc_refuse
  split
  · exact h
  split
  · exact h
  · exact zBx_ref h _ _
theorem zBm0 : zBm 0 zM0 zS0 := ⟨zBl0, Or.inr (Or.inr (Or.inr (Or.inl rfl))), fun c hc => absurd hc (by show ¬ (c : Int) < 0; omega), fun j hj => absurd hj (by show ¬ (j : Int) < 0; omega)⟩
end ZMm
