section ZMg
theorem zpow_s (n : Nat) : (32 : Int) ^ (n + 1) = 32 * 32 ^ n := by rw [Int.pow_succ]; omega
theorem zpow_6 {n : Nat} (h : n ≤ 6) : (1 : Int) ≤ 32 ^ n ∧ (32 : Int) ^ n ≤ 1073741824 := by
  have key : ∀ m : Nat, m ≤ 6 → (1 : Int) ≤ 32 ^ m ∧ (32 : Int) ^ m ≤ 1073741824 := by decide +kernel
  exact key n h
end ZMg
