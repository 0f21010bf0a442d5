section ZBe
theorem zB_powF {v p : Int} {S : zS2} (h : S 0 10 = p) (hp : 2 ≤ p) (hv : 0 ≤ v) : ∀ k : Nat, zfor (zm_power_L5 S v) 0 1 k = v ^ k % p
  | 0 => by
    show (1 : Int) = v ^ 0 % p
    rw [Int.pow_zero, Int.emod_eq_of_lt (by decide) (by omega)]
  | k + 1 => by
    show Int.tmod (zfor (zm_power_L5 S v) 0 1 k * v) (S 0 10) = _
    rw [zB_powF h hp hv k, h, Int.tmod_eq_emod_of_nonneg (Int.mul_nonneg (Int.emod_nonneg _ (by omega)) hv), Int.pow_succ]
    rw [Int.mul_emod, Int.emod_emod_of_dvd _ (Int.dvd_refl p), ← Int.mul_emod]
theorem zB_power {S : zS2} {v n p : Int} (h : S 0 10 = p) (hp : 2 ≤ p) (hv : 0 ≤ v) : zm_power S v n = v ^ n.toNat % p := by
  unfold zm_power
  show zm_modulo S (zfor (zm_power_L5 S v) 0 1 ((n - 1) + 1 - 0).toNat) = _
  rw [zB_powF h hp hv, zB_mod h (by omega), Int.emod_emod_of_dvd _ (Int.dvd_refl p), show (n - 1) + 1 - 0 = n by omega]
end ZBe
