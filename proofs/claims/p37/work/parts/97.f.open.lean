section ZJf
theorem zown_34 {n : Int} {T : Nat → Int} {a : Int} : (zown n T a = 3 ↔ ¬ zwd n T 2 a = 0) ∧ (zown n T a = 4 ↔ zwd n T 2 a = 0 ∧ ¬ zwd n T 3 a = 0) := by
  have l := zlen_all
  have x : ∀ i, i < 2 → ¬ zwd n T i a = 0 → zwd n T 2 a = 0 ∧ zwd n T 3 a = 0 := fun i hi h => by
    have l0 : zlen i = 5 := by
      have : i = 0 ∨ i = 1 := by omega
      rcases this with e | e
      · rw [e]; exact l.1
      · rw [e]; exact l.2.1
    have e1 := zwd_len h
    refine ⟨Classical.byContradiction fun z => ?_, Classical.byContradiction fun z => ?_⟩
    · have := zwd_len z
      rw [l.2.2.1] at this
      omega
    · have := zwd_len z
      rw [l.2.2.2] at this
      omega
  unfold zown
  by_cases c0 : zwd n T 0 a = 0
  · rw [if_pos c0]
    by_cases c1 : zwd n T 1 a = 0
    · rw [if_pos c1]
      by_cases c2 : zwd n T 2 a = 0
      · rw [if_pos c2]
        by_cases c3 : zwd n T 3 a = 0
        · rw [if_pos c3]
          exact ⟨⟨fun z => absurd z (by decide), fun z => absurd c2 z⟩, ⟨fun z => absurd z (by decide), fun z => absurd c3 z.2⟩⟩
        · rw [if_neg c3]
          exact ⟨⟨fun z => absurd z (by decide), fun z => absurd c2 z⟩, ⟨fun _ => ⟨c2, c3⟩, fun _ => rfl⟩⟩
      · rw [if_neg c2]
        exact ⟨⟨fun _ => c2, fun _ => rfl⟩, ⟨fun z => absurd z (by decide), fun z => absurd z.1 c2⟩⟩
    · rw [if_neg c1]
      obtain ⟨y1, y2⟩ := x 1 (by decide) c1
      exact ⟨⟨fun z => absurd z (by decide), fun z => absurd y1 z⟩, ⟨fun z => absurd z (by decide), fun z => absurd y2 z.2⟩⟩
  · rw [if_neg c0]
    obtain ⟨y1, y2⟩ := x 0 (by decide) c0
    exact ⟨⟨fun z => absurd z (by decide), fun z => absurd y1 z⟩, ⟨fun z => absurd z (by decide), fun z => absurd y2 z.2⟩⟩
theorem zput1_can {p : Int} (hp : 2 ≤ p) (x y : Int) : zcan p (zput (zone 0) x y 1) := zcan_put (zone_can (by omega) (by omega)) _ _ (by omega)
end ZJf
