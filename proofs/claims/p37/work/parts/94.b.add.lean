section ZGb
theorem zclr_sp (n : Nat) (hn : n < 6) (lt : Nat → Int) (q : Nat) : zclr n lt 6 q = if 6 * n ≤ q ∧ q < 6 * n + 6 then 0 else lt q := by
  unfold zclr
  rw [show ((6 : Int) - 0).toNat = 6 from rfl]
  have h : (fun (k : Nat) (t : Nat → Int) => t q = if 6 * n ≤ q ∧ q < 6 * n + k then 0 else lt q) 6 (zfor (fun i t => zsetL n t i 0) 0 lt 6) := by
    refine zfor_ix (I := fun (k : Nat) (t : Nat → Int) => t q = if 6 * n ≤ q ∧ q < 6 * n + k then 0 else lt q) (by rw [if_neg (by omega)]) 6 (fun k t hk ht => ?_)
    show zsetL n t (0 + (k : Int)) 0 q = _
    unfold zsetL
    rw [if_pos (by omega), show ((n : Int) * 6 + (0 + (k : Int))).toNat = 6 * n + k by omega]
    unfold zup
    by_cases e : q = 6 * n + k
    · rw [if_pos e, if_pos (by omega)]
    · rw [if_neg e, ht]
      by_cases y : 6 * n ≤ q ∧ q < 6 * n + k
      · rw [if_pos y, if_pos (by omega)]
      · rw [if_neg y, if_neg (by omega)]
  exact h
end ZGb
