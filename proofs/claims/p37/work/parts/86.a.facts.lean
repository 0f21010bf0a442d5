section ZBb
theorem zB_fin {i : Int} {M : zCt} {S : zS2} (h : zBl i M S) : (M.1 0 2, M).1 = (S 0 1, S).1 ∧ zBl (i + 8) (M.1 0 2, M).2 (S 0 1, S).2 := ⟨h.1.1.symm, ⟨h.1, h.2.1, h.2.2.1, h.2.2.2⟩⟩
end ZBb
section ZBc
end ZBc
section ZBd
theorem zBl0 : zBl 0 zM0 zS0 := by
  have z0 : ∀ k : Nat, ¬ (k : Int) < 0 := fun k => by omega
  exact ⟨⟨rfl, fun k hk => absurd hk (z0 k)⟩, ⟨⟨rfl, rfl⟩, fun k _ => rfl⟩, ⟨rfl, rfl, fun c hc => absurd hc (z0 c)⟩, ⟨rfl, fun j hj => absurd hj (z0 j)⟩⟩
end ZBd
