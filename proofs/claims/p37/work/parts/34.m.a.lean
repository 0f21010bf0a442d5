section ZMe
theorem zshn : ∀ n : Nat, n < 32 → ((zI (n : Int) &&& 31).toBitVec.smod 32).toNat = n := by decide +kernel
theorem zshri {x s : Int} (hx : -2147483648 ≤ x ∧ x ≤ 2147483647) (hs : 0 ≤ s ∧ s < 32) : (zI x >>> (zI s &&& 31)).toInt = x / 2 ^ s.toNat := by
  have h := pk_shr (zI x) (zI s &&& 31) s.toNat (by have q := zshn s.toNat (by omega); rw [Int.toNat_of_nonneg hs.1] at q; exact q)
  rw [h, zI_toInt hx.1 hx.2, Int.shiftRight_eq_div_pow]
  rfl
theorem zshr {x s : Int} (hx : -2147483648 ≤ x ∧ x ≤ 2147483647) (hs : 0 ≤ s ∧ s < 32) : (zI x >>> (zI s &&& 31)) &&& zI 255 = zI (zbyt x s) := by
  rw [zmask, zshri hx hs]
  rfl
/-- a letter of a name -/
def zlt5 (x i : Int) : Int := x / 2 ^ i.toNat % 32
theorem zlt5_rng (x i : Int) : 0 ≤ zlt5 x i ∧ zlt5 x i ≤ 31 := by
  unfold zlt5
  have := zmr (x / 2 ^ i.toNat) (p := 32) (by decide)
  omega
theorem zmask5 (y : Int32) : y &&& zI 31 = zI (y.toInt % 32) := by
  have h := Jvm.Kit.i32_mask y (zI 31) (k := 5) (by decide) (by decide)
  rw [← Int32.ofInt_toInt (y &&& zI 31), h]
  rfl
theorem zshr5 {x s : Int} (hx : -2147483648 ≤ x ∧ x ≤ 2147483647) (hs : 0 ≤ s ∧ s < 32) : (zI x >>> (zI s &&& 31)) &&& zI 31 = zI (zlt5 x s) := by
  rw [zmask5, zshri hx hs]
  rfl
end ZMe
