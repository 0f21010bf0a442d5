section ZMm
theorem zBx_app {M : zCt} (h : zBx M) (x : Int) : zBx (zw_append M x) := by
  have r : ∀ k i : Nat, k ≠ 2 → ¬ (k = 0 ∧ i = 2) → (zw_append M x).1 k i = M.1 k i := fun k i h1 h3 => by
    show zset (za M.1 0 2 _) 2 _ k i = _
    rw [zset_ne _ _ h1, za_ne h3]
  exact h.same (r 0 3 (by omega) (by omega)) (r 0 4 (by omega) (by omega)) (r 0 5 (by omega) (by omega)) (r 0 6 (by omega) (by omega)) (funext fun i => r 41 i (by omega) (by omega)) rfl rfl
theorem zBx_len {M : zCt} (h : zBx M) (x : Int) : zBx (zw_len M x) := by
  have r : ∀ k i : Nat, ¬ (k = 0 ∧ i = 2) → (zw_len M x).1 k i = M.1 k i := fun k i h3 => za_ne h3
  exact h.same (r 0 3 (by omega)) (r 0 4 (by omega)) (r 0 5 (by omega)) (r 0 6 (by omega)) (funext fun i => r 41 i (by omega)) rfl rfl
theorem zBx_ref {M : zCt} (h : zBx M) (k : Nat) (x : Int) : zBx (zw_ref M k x) := by
  have r : ∀ a i : Nat, a ≠ 1 → (zw_ref M k x).1 a i = M.1 a i := fun a i h3 => za_ne (fun q => h3 q.1)
  exact h.same (r 0 3 (by omega)) (r 0 4 (by omega)) (r 0 5 (by omega)) (r 0 6 (by omega)) (funext fun i => r 41 i (by omega)) rfl rfl
theorem zBx_refuse {M : zCt} (h : zBx M) (k : Int) : zBx (zc_refuse M k) := by
  unfold zc_refuse
  split
  · exact h
  split
  · exact h
  · exact zBx_ref h _ _
theorem zmfact_0 (L : Nat) : zlK_0 zBm L := by
  intro i M S a1 a2 a3 a4 a5 h1 h2 hR hC hI b1 b2 b3 b4 b5
  have h := zfact_0 L i M S a1 a2 a3 a4 a5 h1 h2 hR.1 hC hI b1 b2 b3 b4 b5
  refine ⟨h.1, h.2, ?_⟩
  unfold zc_feed
  by_cases q : M.1 0 2 ≤ 980
  · rw [if_pos q]
    exact zBx_app (zBx_app (zBx_app (zBx_app (zBx_app hR.2 a1) a2) a3) a4) a5
  · rw [if_neg q]
    exact zBx_refuse hR.2 0
theorem zmfact_1 (L : Nat) : zlK_1 zBm L := by
  intro i M S a1 h1 h2 hR hC hI b1
  have h := zfact_1 L i M S a1 h1 h2 hR.1 hC hI b1
  refine ⟨h.1, h.2, ?_⟩
  unfold zc_end
  split
  · exact zBx_refuse hR.2 0
  split
  · exact zBx_len hR.2 a1
  · exact zBx_refuse hR.2 0
theorem zmfact_3 (L : Nat) : zlK_3 zBm L := by
  intro i M S a1 h1 h2 hR hC hI b1
  have h := zfact_3 L i M S a1 h1 h2 hR.1 hC hI b1
  refine ⟨h.1, h.2, ?_⟩
  unfold zc_fault
  split
  · exact hR.2
  split
  · exact hR.2
  · exact hR.2
theorem zmfact_4 (L : Nat) : zlK_4 zBm L := by
  intro i M S a1 h1 h2 hR hC hI b1
  have h := zfact_4 L i M S a1 h1 h2 hR.1 hC hI b1
  refine ⟨h.1, h.2, ?_⟩
  unfold zc_has
  split
  · exact hR.2
  split
  · exact hR.2
  split
  · exact hR.2
  split
  · exact hR.2
  · exact hR.2
theorem zmfact_5 (L : Nat) : zlK_5 zBm L := by
  intro i M S a1 a2 h1 h2 hR hC hI b1 b2
  have h := zfact_5 L i M S a1 a2 h1 h2 hR.1 hC hI b1 b2
  exact ⟨h.1, h.2, hR.2⟩
theorem zmfact_6 (L : Nat) : zlK_6 zBm L := by
  intro i M S a1 a2 a3 h1 h2 hR hC hI b1 b2 b3
  have h := zfact_6 L i M S a1 a2 a3 h1 h2 hR.1 hC hI b1 b2 b3
  refine ⟨h.1, h.2, ?_⟩
  unfold zc_term
  split
  · show zBx (if bI (zfits a2 a3) = 0 then ((-1 : Int), M) else (zat (M.2.1 a1.toNat) a2 a3, M)).2
    split
    · exact hR.2
    · exact hR.2
  · exact hR.2
theorem zmfact_7 (L : Nat) : zlK_7 zBm L := by
  intro i M S a1 h1 h2 hR hC hI b1
  have h := zfact_7 L i M S a1 h1 h2 hR.1 hC hI b1
  refine ⟨h.1, h.2, ?_⟩
  unfold zc_degree
  split
  · exact hR.2
  · exact hR.2
theorem zmfact_33 (L : Nat) : zlK_33 zBm L := by
  intro i M S a1 h1 h2 hR hC hI b1
  have h := zfact_33 L i M S a1 h1 h2 hR.1 hC hI b1
  refine ⟨h.1, h.2, ?_⟩
  unfold zc_status
  split
  · exact hR.2
  split
  · exact hR.2
  · exact hR.2
theorem zBm0 : zBm 0 zM0 zS0 := ⟨zBl0, Or.inr (Or.inr (Or.inr (Or.inl rfl))), fun c hc => absurd hc (by show ¬ (c : Int) < 0; omega), fun j hj => absurd hj (by show ¬ (j : Int) < 0; omega)⟩
theorem zLwd_m (L : Nat) : zLwd zBm L := fun i M S h1 h2 h => ⟨zLwd_B L i M S h1 h2 h.1, h.2⟩
end ZMm
