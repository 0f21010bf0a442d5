section ZMk
theorem zch_s : ∀ n : Nat, n < 5 → ∀ k : Nat, k < n → Int.tdiv (zCH (n * 5 + k) * ((n : Int) - k)) ((k : Int) + 1) = zCH (n * 5 + k + 1) := by decide +kernel
theorem zch_0 : ∀ n : Nat, n < 5 → zCH (n * 5) = 1 := by decide +kernel
theorem zch_i {n k : Int} (hn : 0 ≤ n ∧ n ≤ 4) (hk : 0 ≤ k ∧ k < n) : Int.tdiv (zCH (n * 5 + k).toNat * (n - k)) (k + 1) = zCH (n * 5 + (k + 1)).toNat := by
  have h := zch_s n.toNat (by omega) k.toNat (by omega)
  rw [Int.toNat_of_nonneg hn.1, Int.toNat_of_nonneg hk.1] at h
  rw [show (n * 5 + k).toNat = n.toNat * 5 + k.toNat by omega, show (n * 5 + (k + 1)).toNat = n.toNat * 5 + k.toNat + 1 by omega]
  exact h
end ZMk
