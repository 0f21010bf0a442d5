section ZMn
theorem zfor_fill {S : zS2} {step : Int → zS2 → zS2} {r base : Nat} {g : Nat → Int} : ∀ n : Nat, (∀ (k : Nat) (x : zS2), k < n → (∀ a i : Nat, x a i = if a = r ∧ base ≤ i ∧ i < base + k then g (i - base) else S a i) → step (0 + (k : Int)) x = za x r (base + k) (g k)) → ∀ a i : Nat, (zfor step 0 S n) a i = if a = r ∧ base ≤ i ∧ i < base + n then g (i - base) else S a i
  | 0, _, a, i => by rw [if_neg (by omega)]; rfl
  | n + 1, h, a, i => by
    have ih := zfor_fill n (fun k x hk hx => h k x (by omega) hx)
    show (step (0 + (n : Int)) (zfor step 0 S n)) a i = _
    rw [h n _ (by omega) ih]
    by_cases q : a = r ∧ i = base + n
    · rw [q.1, q.2, za_same, if_pos (by omega), show base + n - base = n by omega]
    · rw [za_ne q, ih]
      by_cases q2 : a = r ∧ base ≤ i ∧ i < base + n
      · rw [if_pos q2, if_pos (by omega)]
      · rw [if_neg q2, if_neg (by omega)]
/-- where the k-th number of a kept one comes from -/
def zkp (S : zS2) (q : Nat) : Int := if q = 0 then S 0 13 else if q < 7 then S 5 (q - 1) else S 3 (q - 7)
theorem zBix_lt {nx : Int} {j : Nat} : zBix nx j < 20 := by unfold zBix; omega
theorem zBix_0 {nx : Int} (h : 0 ≤ nx ∧ nx < 20) : zBix (if nx + 1 < 20 then nx + 1 else 0) 0 = nx.toNat := by
  unfold zBix
  split <;> omega
theorem zBix_s {nx : Int} (h : 0 ≤ nx ∧ nx < 20) (j : Nat) : zBix (if nx + 1 < 20 then nx + 1 else 0) (j + 1) = zBix nx j := by
  unfold zBix
  split <;> omega
theorem zBix_b {nx : Int} (h : 0 ≤ nx ∧ nx < 20) (j : Nat) : zBix (if 0 < nx then nx - 1 else 19) j = zBix nx (j + 1) := by
  unfold zBix
  split <;> omega
theorem zBix_n {nx : Int} (h : 0 ≤ nx ∧ nx < 20) {j : Nat} (hj : j < 19) : zBix nx j ≠ nx.toNat := by
  unfold zBix
  omega
end ZMn
