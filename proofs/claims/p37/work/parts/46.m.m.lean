section ZMq
theorem zmul32 {x y : Int} (hx : -2147483648 ≤ x ∧ x ≤ 2147483647) (hy : -2147483648 ≤ y ∧ y ≤ 2147483647) : -4611686016279904256 ≤ x * y ∧ x * y ≤ 4611686018427387904 := by
  have hu := zbox_mul (a := x) (b := y) (A := 2147483648) (B := 2147483648) (by omega) (by omega) (C := 4611686018427387904) (by decide)
  refine ⟨?_, hu.2⟩
  by_cases h : 0 ≤ x
  · have h1 : x * (-2147483648) ≤ x * y := Int.mul_le_mul_of_nonneg_left hy.1 h
    omega
  · have h1 : (-x) * y ≤ (-x) * 2147483647 := Int.mul_le_mul_of_nonneg_left hy.2 (by omega)
    rw [Int.neg_mul, Int.neg_mul] at h1
    omega
theorem zbk_0 {i : Nat} {x : Int} (h : i % 157 = 0) : zbk i x ↔ 0 ≤ x ∧ x ≤ 6 := by unfold zbk; rw [if_pos h]
theorem zbk_1 {i : Nat} {x : Int} (h : 1 ≤ i % 157 ∧ i % 157 < 7) : zbk i x ↔ 0 ≤ x ∧ x ≤ 1073741823 := by unfold zbk; rw [if_neg (by omega), if_pos (by omega)]
theorem zbk_7 {i : Nat} {x : Int} (h : 7 ≤ i % 157) : zbk i x ↔ 0 ≤ x ∧ x ≤ 30 := by unfold zbk; rw [if_neg (by omega), if_neg (by omega)]
theorem zbk_s {i j : Nat} {x : Int} (h : i % 157 = j % 157) (hx : zbk j x) : zbk i x := by unfold zbk at hx ⊢; rw [h]; exact hx
end ZMq
