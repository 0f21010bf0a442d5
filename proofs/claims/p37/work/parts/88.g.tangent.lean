section ZMl
/-- the lowest TERMS in the class and in the model -/
def zlwR (p n : Int) (lw : Nat → Int) (U : zS2) : Prop := U 0 10 = p ∧ ∀ j : Nat, (j : Int) ≤ n → lw j = U 9 j ∧ 0 ≤ lw j ∧ lw j < p
/-- what is carried -/
def zcry (lw : Nat → Int) (w p : Int) (t : Nat) : Nat → Int
  | 0 => 0
  | k + 1 => (zcry lw w p t k * w + lw (t - k)) % p
theorem zcry_rng (lw : Nat → Int) (w : Int) {p : Int} (hp : 0 < p) (t : Nat) : ∀ k, 0 ≤ zcry lw w p t k ∧ zcry lw w p t k < p
  | 0 => ⟨Int.le_refl _, hp⟩
  | k + 1 => ⟨Int.emod_nonneg _ (by omega), Int.emod_lt_of_pos _ hp⟩
theorem zdiv1_sp (lw : Nat → Int) (w p : Int) (t : Nat) (j : Nat) : zdiv1 lw w p t j = if j ≤ t then zcry lw w p t (t - j) else lw j := by
  have g : ∀ k : Nat, k ≤ t + 1 → (zforD (zdiv_s w p) t (lw, 0) k).2 = zcry lw w p t k ∧ ∀ j : Nat, (zforD (zdiv_s w p) t (lw, 0) k).1 j = if t + 1 - k ≤ j ∧ j ≤ t then zcry lw w p t (t - j) else lw j := fun k => by
    induction k with
    | zero => intro _; exact ⟨rfl, fun j => by rw [if_neg (by omega)]; rfl⟩
    | succ k ih =>
      intro hk
      obtain ⟨i1, i2⟩ := ih (by omega)
      have e : (((t : Int) - (k : Int)).toNat) = t - k := by omega
      refine ⟨?_, fun j => ?_⟩
      · show ((zforD (zdiv_s w p) t (lw, 0) k).2 * w + (zforD (zdiv_s w p) t (lw, 0) k).1 (((t : Int) - (k : Int)).toNat)) % p = (zcry lw w p t k * w + lw (t - k)) % p
        rw [i1, e, i2, if_neg (by omega)]
      · show zup (zforD (zdiv_s w p) t (lw, 0) k).1 (((t : Int) - (k : Int)).toNat) (zforD (zdiv_s w p) t (lw, 0) k).2 j = _
        rw [e, i1]
        unfold zup
        by_cases q : j = t - k
        · rw [if_pos q, if_pos (by omega), show t - j = k by omega]
        · rw [if_neg q, i2]
          by_cases q2 : t + 1 - k ≤ j ∧ j ≤ t
          · rw [if_pos q2, if_pos (by omega)]
          · rw [if_neg q2, if_neg (by omega)]
  unfold zdiv1
  rw [show ((t : Int) - -1).toNat = t + 1 by omega, (g (t + 1) (Nat.le_refl _)).2 j]
  by_cases q : j ≤ t
  · rw [if_pos q, if_pos (by omega)]
  · rw [if_neg q, if_neg (by omega)]
theorem zlow_sp (c lw : Nat → Int) (n : Nat) : ∀ j : Nat, j ≤ n → zlow c lw n j = zat c ((n : Int) - j) j := by
  have g : ∀ k : Nat, ∀ j : Nat, j < k → (zfor (zlow_s c n) 0 lw k) j = zat c ((n : Int) - j) j := fun k => by
    induction k with
    | zero => intro j hj; exact absurd hj (Nat.not_lt_zero _)
    | succ k ih =>
      intro j hj
      show zup (zfor (zlow_s c n) 0 lw k) ((0 + (k : Int)).toNat) (zat c ((n : Int) - (0 + (k : Int))) (0 + (k : Int))) j = _
      rw [show (0 + (k : Int)).toNat = k by omega, show 0 + (k : Int) = (k : Int) by omega]
      unfold zup
      by_cases q : j = k
      · rw [if_pos q, q]
      · rw [if_neg q]; exact ih j (by omega)
  intro j hj
  unfold zlow
  rw [show ((n : Int) + 1 - 0).toNat = n + 1 by omega]
  exact g (n + 1) j (by omega)
end ZMl
