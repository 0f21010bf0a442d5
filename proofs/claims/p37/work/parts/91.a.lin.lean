section ZLn
theorem ka_az {K : Type} [Lean.Grind.CommRing K] (x : K) : x + 0 = x := by grind
theorem ka_za {K : Type} [Lean.Grind.CommRing K] (x : K) : 0 + x = x := by grind
theorem ka_mz {K : Type} [Lean.Grind.CommRing K] (x : K) : x * 0 = 0 := by grind
theorem ka_zm {K : Type} [Lean.Grind.CommRing K] (x : K) : 0 * x = 0 := by grind
theorem ka_om {K : Type} [Lean.Grind.CommRing K] (x : K) : 1 * x = x := by grind
theorem ka_xx {K : Type} [Lean.Grind.CommRing K] (x : K) : x - x = 0 := by grind
theorem ka_rg1 {K : Type} [Lean.Grind.CommRing K] (b x y v z : K) : b * x = b * (x - y * v * z) + b * (y * v) * z := by grind
theorem ka_rg2 {K : Type} [Lean.Grind.CommRing K] (b x v y : K) (h : y * v = 1) : b * (x - x * v * y) = 0 := by
  rw [show b * (x - x * v * y) = b * (x - x * (y * v)) by grind, h]; grind
theorem ka_rg3 {K : Type} [Lean.Grind.CommRing K] (s z : K) : 0 + s * z + (-s) * z = 0 := by grind
/-- more unknowns than equations -/
theorem kl_hls {K : Type} [Lean.Grind.CommRing K] (hK : ka_F K) : ∀ (n m : Nat) (M : Nat → Nat → K), n < m → ∃ a : Nat → K, (∃ t, t < m ∧ a t ≠ 0) ∧ ∀ j, j < n → ka_s (fun t => a t * M t j) m = 0
  | 0, m, M, h => ⟨fun _ => 1, ⟨0, h, hK.1⟩, fun j hj => absurd hj (Nat.not_lt_zero _)⟩
  | n + 1, m, M, h => by
    by_cases z : ∀ t, t < m → M t n = 0
    · obtain ⟨a, a0, a1⟩ := kl_hls hK n m M (by omega)
      refine ⟨a, a0, fun j hj => ?_⟩
      by_cases e : j = n
      · rw [e]
        exact ka_s_zero _ (fun t ht => by rw [z t ht]; exact ka_mz _)
      · exact a1 j (by omega)
    · obtain ⟨s, hs, hs0⟩ : ∃ s, s < m ∧ M s n ≠ 0 := Classical.byContradiction fun y => z (fun t ht => Classical.byContradiction fun x => y ⟨t, ht, x⟩)
      obtain ⟨v, hv⟩ := hK.2 _ hs0
      obtain ⟨m', rfl⟩ : ∃ m', m = m' + 1 := ⟨m - 1, by omega⟩
      -- the others, made free of the last equation
      obtain ⟨nx, hnx⟩ : ∃ nx : Nat → Nat, nx = fun t => if t < s then t else t + 1 := ⟨_, rfl⟩
      obtain ⟨b, ⟨t0, ht0, hb0⟩, b1⟩ := kl_hls hK n m' (fun t j => M (nx t) j - M (nx t) n * v * M s j) (by omega)
      have nl : ∀ t, t < m' → nx t < m' + 1 ∧ nx t ≠ s := fun t ht => by
        rw [hnx]
        show (if t < s then t else t + 1) < m' + 1 ∧ (if t < s then t else t + 1) ≠ s
        split <;> omega
      have split1 : ∀ (k : Nat) (g : Nat → K), k ≤ m' → ka_s (fun t => if t = s then 0 else g t) (if s < k + 1 then k + 1 else k) = ka_s (fun t => g (nx t)) k := fun k g hk => by
        induction k with
        | zero =>
          by_cases q : s < 0 + 1
          · rw [if_pos q]
            show (0 + (if 0 = s then 0 else g 0) : K) = 0
            rw [if_pos (by omega)]; exact ka_az _
          · rw [if_neg q]; rfl
        | succ k ih =>
          have ih := ih (by omega)
          show _ = ka_s (fun t => g (nx t)) k + g (nx k)
          rw [← ih, hnx]
          show _ = _ + g (if k < s then k else k + 1)
          by_cases q : s < k + 1
          · rw [if_pos q, if_pos (by omega), if_neg (by omega)]
            show ka_s (fun t => if t = s then 0 else g t) (k + 1) + (if k + 1 = s then 0 else g (k + 1)) = _
            rw [if_neg (by omega)]
          · by_cases q2 : s = k + 1
            · rw [if_neg q, if_pos (by omega), if_pos (by omega)]
              show (ka_s (fun t => if t = s then 0 else g t) k + (if k = s then 0 else g k)) + (if k + 1 = s then 0 else g (k + 1)) = _
              rw [if_neg (by omega), if_pos (by omega), ka_az]
            · rw [if_neg q, if_neg (by omega), if_pos (by omega)]
              show ka_s (fun t => if t = s then 0 else g t) k + (if k = s then 0 else g k) = _
              rw [if_neg (by omega)]
      -- the coefficient of the one that was taken
      obtain ⟨c, hc⟩ : ∃ c, c = - ka_s (fun t => b t * (M (nx t) n * v)) m' := ⟨_, rfl⟩
      obtain ⟨bk, hbk⟩ : ∃ bk : Nat → K, bk = fun t => if t < s then b t else b (t - 1) := ⟨_, rfl⟩
      have bn : ∀ t, t < m' → bk (nx t) = b t := fun t ht => by
        rw [hbk, hnx]
        show (if (if t < s then t else t + 1) < s then b (if t < s then t else t + 1) else b ((if t < s then t else t + 1) - 1)) = b t
        by_cases q : t < s
        · rw [if_pos q, if_pos q]
        · rw [if_neg q, if_neg (by omega), Nat.add_sub_cancel]
      refine ⟨fun t => if t = s then c else bk t, ⟨nx t0, (nl t0 ht0).1, ?_⟩, fun j hj => ?_⟩
      · show (if nx t0 = s then c else bk (nx t0)) ≠ 0
        rw [if_neg (nl t0 ht0).2, bn t0 ht0]; exact hb0
      · have e1 : ∀ t, (if t = s then c else bk t) * M t j = (if t = s then 0 else bk t * M t j) + (if t = s then c * M s j else 0) := fun t => by
          by_cases q : t = s
          · rw [if_pos q, if_pos q, if_pos q, q, ka_za]
          · rw [if_neg q, if_neg q, if_neg q, ka_az]
        rw [ka_s_congr (m' + 1) (fun t _ => e1 t), ka_s_add, ka_s_one (f := fun t => if t = s then c * M s j else 0) (k := s) (m' + 1) hs (fun t _ hne => if_neg hne), if_pos rfl]
        have e2 := split1 m' (fun t => bk t * M t j) (Nat.le_refl _)
        rw [if_pos (by omega)] at e2
        rw [e2]
        have e3 : ka_s (fun t => bk (nx t) * M (nx t) j) m' = ka_s (fun t => b t * (M (nx t) j - M (nx t) n * v * M s j)) m' + ka_s (fun t => b t * (M (nx t) n * v)) m' * M s j := by
          rw [← ka_s_mulr, ← ka_s_add]
          exact ka_s_congr _ (fun t ht => by rw [bn t ht]; exact ka_rg1 _ _ _ _ _)
        rw [e3]
        by_cases ej : j = n
        · have e4 : ka_s (fun t => b t * (M (nx t) j - M (nx t) n * v * M s j)) m' = 0 := ka_s_zero _ (fun t _ => by
            rw [ej]; exact ka_rg2 _ _ _ _ hv)
          rw [e4, hc]; exact ka_rg3 _ _
        · rw [b1 j (by omega), hc]; exact ka_rg3 _ _
end ZLn
