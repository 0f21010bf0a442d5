section ZHb
/-- the RULES end within so many -/
def zrE (p : Int) : Nat → (Nat → Int) → (Nat → Int) → Prop
  | 0, _, _ => False
  | n + 1, F, G => zwhich F G = 0 ∨ (zwhich F G = 1 ∧ 0 ≤ zlst G ∧ zrE p n (zspl F) G) ∨ (zwhich F G = 2 ∧ zrE p n G F) ∨ (zwhich F G = 3 ∧ zrE p n F (zcut F G p))
theorem zwh_0 {F G : Nat → Int} (h : zwhich F G = 0) : F 0 ≠ 0 ∨ G 0 ≠ 0 := by
  unfold zwhich at h
  split at h
  · assumption
  · split at h
    · omega
    · split at h <;> omega
theorem zwh_1 {F G : Nat → Int} (h : zwhich F G = 1) : F 0 = 0 ∧ G 0 = 0 ∧ zgrt F = -1 := by
  have := zgrt_rng F
  unfold zwhich at h
  split at h
  · omega
  · split at h
    · refine ⟨Classical.byContradiction fun z => ?_, Classical.byContradiction fun z => ?_, by omega⟩
      · rename_i q _
        exact q (Or.inl z)
      · rename_i q _
        exact q (Or.inr z)
    · split at h <;> omega
theorem zwh_2 {F G : Nat → Int} (h : zwhich F G = 2) : F 0 = 0 ∧ G 0 = 0 ∧ 0 ≤ zgrt F ∧ (zgrt G = -1 ∨ zgrt G < zgrt F) := by
  have := zgrt_rng F
  have := zgrt_rng G
  unfold zwhich at h
  split at h
  · omega
  · split at h
    · omega
    · split at h
      · rename_i q _ _
        refine ⟨Classical.byContradiction fun z => q (Or.inl z), Classical.byContradiction fun z => q (Or.inr z), by omega, by omega⟩
      · omega
theorem zwh_3 {F G : Nat → Int} (h : zwhich F G = 3) : F 0 = 0 ∧ G 0 = 0 ∧ 0 ≤ zgrt F ∧ zgrt F ≤ zgrt G := by
  have := zgrt_rng F
  have := zgrt_rng G
  unfold zwhich at h
  split at h
  · omega
  · split at h
    · omega
    · split at h
      · omega
      · rename_i q _ _
        refine ⟨Classical.byContradiction fun z => q (Or.inl z), Classical.byContradiction fun z => q (Or.inr z), by omega, by omega⟩
/-- the reduction, both -/
def zrR (p : Int) (F G o ki : Nat → Int) (st : Nat) (S : zS2) : Prop := S 0 10 = p ∧ zRG F S 16 ∧ zRG G S 17 ∧ (∀ k : Nat, k < 4 → S 18 k = o k) ∧ S 0 33 = st ∧ ∀ k : Nat, k < st → S 19 k = ki k
theorem zrR.same {p : Int} {F G o ki F' G' : Nat → Int} {st : Nat} {S T : zS2} (h : zrR p F G o ki st S) (h16 : zRG F' T 16) (h17 : zRG G' T 17) (e : ∀ a i : Nat, a ≠ 16 → a ≠ 17 → T a i = S a i) : zrR p F' G' o ki st T := by
  obtain ⟨h1, h2, h3, h5, h6, h7⟩ := h
  exact ⟨by rw [e 0 10 (by decide) (by decide), h1], h16, h17, fun i hi => by rw [e 18 i (by decide) (by decide)]; exact h5 i hi, by rw [e 0 33 (by decide) (by decide), h6], fun i hi => by rw [e 19 i (by decide) (by decide)]; exact h7 i hi⟩
/-- what stands when it is over -/
def zrD (p t : Int) (R : zRs) (S W : zS2) : Prop := (∀ k : Nat, k < 4 → W 18 k = R.2.2.2.2.1 k) ∧ W 0 33 = R.2.1 ∧ (∀ k : Nat, (k : Int) < R.2.1 → W 19 k = R.2.2.2.2.2 k) ∧ (1 ≤ R.2.1 ∧ R.2.1 ≤ 2048) ∧ t ≤ R.1 ∧ ∀ a i : Nat, ¬ (16 ≤ a ∧ a ≤ 19) → ¬ (a = 0 ∧ i = 33) → W a i = S a i
end ZHb
