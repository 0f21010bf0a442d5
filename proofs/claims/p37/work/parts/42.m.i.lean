section ZMm
/-- how many are not -1 -/
def zcnt (c : Nat → Int) : Nat → Int
  | 0 => 0
  | n + 1 => zcnt c n + (if c n = -1 then 0 else 1)
theorem zcnt_le (c : Nat → Int) : ∀ n : Nat, 0 ≤ zcnt c n ∧ zcnt c n ≤ n
  | 0 => by simp only [zcnt]; omega
  | n + 1 => by
    have := zcnt_le c n
    simp only [zcnt]
    split <;> omega
theorem zcnt_lt {c : Nat → Int} {k : Nat} (hk : c k = -1) : ∀ n : Nat, k < n → zcnt c n ≤ (n : Int) - 1
  | 0, h => by omega
  | n + 1, h => by
    have h1 := zcnt_le c n
    simp only [zcnt]
    by_cases e : k = n
    · rw [if_pos (by rw [← e]; exact hk)]
      omega
    · have := zcnt_lt hk n (by omega)
      split <;> omega
theorem zcnt_same {c d : Nat → Int} : ∀ n : Nat, (∀ q, q < n → c q = d q) → zcnt c n = zcnt d n
  | 0, _ => rfl
  | n + 1, h => by simp only [zcnt]; rw [zcnt_same n (fun q hq => h q (by omega)), h n (by omega)]
theorem zcnt_up {c d : Nat → Int} {k : Nat} (hk : c k = -1) (hd : d k ≠ -1) (hs : ∀ q, q ≠ k → d q = c q) : ∀ n : Nat, k < n → zcnt d n = zcnt c n + 1
  | 0, h => by omega
  | n + 1, h => by
    simp only [zcnt]
    by_cases e : k = n
    · rw [zcnt_same (d := c) n (fun q hq => hs q (by omega)), ← e, if_neg hd, if_pos hk]
      omega
    · rw [zcnt_up hk hd hs n (by omega), hs n (by omega)]
      omega
theorem zcnt_0 {c : Nat → Int} : ∀ n : Nat, (∀ q, q < n → c q = -1) → zcnt c n = 0
  | 0, _ => rfl
  | n + 1, h => by simp only [zcnt]; rw [zcnt_0 n (fun q hq => h q (by omega)), if_pos (h n (by omega))]; rfl
def zmt (d : Int) : Int := (d + 1) * (d + 2) / 2
theorem zmt_tab : ∀ n : Nat, n < 25 → zmt n = ((([1, 3, 6, 10, 15, 21, 28, 36, 45, 55, 66, 78, 91, 105, 120, 136, 153, 171, 190, 210, 231, 253, 276, 300, 325] : List Nat).getD n 0 : Nat) : Int) := by decide +kernel
theorem zmt_bd : ∀ n : Nat, n < 25 → 0 ≤ zmt n ∧ zmt n ≤ 325 ∧ (n ≤ 3 → zmt n ≤ 10) ∧ (n ≤ 4 → zmt n ≤ 15) := by decide +kernel
theorem zmt_rng {d : Int} (h : 0 ≤ d ∧ d ≤ 24) : 0 ≤ zmt d ∧ zmt d ≤ 325 ∧ (d ≤ 3 → zmt d ≤ 10) ∧ (d ≤ 4 → zmt d ≤ 15) := by
  have := zmt_bd d.toNat (by omega)
  rw [Int.toNat_of_nonneg h.1] at this
  exact ⟨this.1, this.2.1, fun q => this.2.2.1 (by omega), fun q => this.2.2.2 (by omega)⟩
theorem zcol_bd : ∀ n : Nat, n < 25 → ((n : Int) * (n + 1) / 2 = zmt n - n - 1) := by decide +kernel
theorem zcol_mt {i j : Int} (hi : 0 ≤ i) (hj : 0 ≤ j) (h : i + j ≤ 24) : zcol i j = zmt (i + j) - i - 1 := by
  have := zcol_bd (i + j).toNat (by omega)
  rw [Int.toNat_of_nonneg (by omega)] at this
  unfold zcol
  omega
theorem zcol_b {i j : Int} (hi : 0 ≤ i) (hj : 0 ≤ j) (h : i + j ≤ 24) : 0 ≤ zcol i j ∧ zcol i j ≤ 324 ∧ (i + j ≤ 8 → zcol i j ≤ 44) ∧ (i + j ≤ 4 → zcol i j ≤ 14) ∧ (i + j ≤ 3 → zcol i j ≤ 9) := by
  have h2 := zmt_rng (d := i + j) (by omega)
  have h1 := zcol_mt hi hj h
  have h0 : 0 ≤ zcol i j := (zcol_rng (i := i) (j := j) (by omega) (by omega)).1
  refine ⟨h0, by omega, fun q => zcol_8 hi hj q, fun q => ?_, fun q => ?_⟩
  · have := h2.2.2.2 (by omega)
    omega
  · have := h2.2.2.1 (by omega)
    omega
theorem zcol_t {i j : Int} (hi : 0 ≤ i) (hj : 0 ≤ j) : Int.tdiv ((i + j) * (i + j + 1)) 2 + j = zcol i j := by
  unfold zcol
  rw [Int.tdiv_eq_ediv_of_nonneg (Int.mul_nonneg (by omega) (by omega))]
theorem zmt_t {d : Int} (hd : 0 ≤ d) : Int.tdiv ((d + 1) * (d + 2)) 2 = zmt d := by
  unfold zmt
  rw [Int.tdiv_eq_ediv_of_nonneg (Int.mul_nonneg (by omega) (by omega))]
end ZMm
