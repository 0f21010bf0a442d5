section ZMh
theorem zlead_sp (c : Nat → Int) {d : Nat} (hd : d ≤ 4) : (zlead c d = -1 ∧ ∀ k : Nat, k ≤ d → c (5 * k + (d - k)) = 0) ∨ ∃ k : Nat, k ≤ d ∧ zlead c d = k ∧ c (5 * k + (d - k)) ≠ 0 ∧ ∀ k' : Nat, k < k' → k' ≤ d → c (5 * k' + (d - k')) = 0 := by
  have h : ∀ n : Nat, n ≤ d + 1 → (zleadF c d n = -1 ∧ ∀ k : Nat, k < n → c (5 * k + (d - k)) = 0) ∨ ∃ k : Nat, k < n ∧ zleadF c d n = k ∧ c (5 * k + (d - k)) ≠ 0 ∧ ∀ k' : Nat, k < k' → k' < n → c (5 * k' + (d - k')) = 0 := by
    intro n
    induction n with
    | zero => intro _; exact Or.inl ⟨rfl, fun k hk => absurd hk (Nat.not_lt_zero _)⟩
    | succ n ih =>
      intro hn
      have e : zleadF c d (n + 1) = if c (5 * n + (d - n)) ≠ 0 then (n : Int) else zleadF c d n := by
        show (if c (((n : Int) * 5 + (d : Int) - (n : Int)).toNat) ≠ 0 then (n : Int) else zleadF c d n) = _
        rw [show ((n : Int) * 5 + (d : Int) - (n : Int)).toNat = 5 * n + (d - n) by omega]
      rw [e]
      by_cases q : c (5 * n + (d - n)) ≠ 0
      · rw [if_pos q]
        exact Or.inr ⟨n, by omega, rfl, q, fun k' a b => by omega⟩
      · rw [if_neg q]
        have q0 : c (5 * n + (d - n)) = 0 := Classical.byContradiction q
        rcases ih (by omega) with ⟨i1, i2⟩ | ⟨k, k1, k2, k3, k4⟩
        · refine Or.inl ⟨i1, fun k hk => ?_⟩
          by_cases z : k = n
          · rw [z]; exact q0
          · exact i2 k (by omega)
        · refine Or.inr ⟨k, by omega, k2, k3, fun k' a b => ?_⟩
          by_cases z : k' = n
          · rw [z]; exact q0
          · exact k4 k' a (by omega)
  have hl : zlead c d = zleadF c d (d + 1) := by
    unfold zlead
    rw [if_pos (by omega), show ((d : Int) + 1).toNat = d + 1 by omega]
  rw [hl]
  rcases h (d + 1) (Nat.le_refl _) with ⟨i1, i2⟩ | ⟨k, k1, k2, k3, k4⟩
  · exact Or.inl ⟨i1, fun k hk => i2 k (by omega)⟩
  · exact Or.inr ⟨k, by omega, k2, k3, fun k' a b => k4 k' a (by omega)⟩
/-- ORDER, by what it is -/
def zlo (c : Nat → Int) (n : Int) : Prop := (∃ i j : Nat, i + j ≤ 4 ∧ ((i + j : Nat) : Int) = n ∧ c (5 * i + j) ≠ 0) ∧ ∀ i j : Nat, i + j ≤ 4 → c (5 * i + j) ≠ 0 → n ≤ ((i + j : Nat) : Int)
theorem zlo_u {c : Nat → Int} {n m : Int} (h : zlo c n) (h2 : zlo c m) : n = m := by
  obtain ⟨⟨i, j, a1, a2, a3⟩, b⟩ := h
  obtain ⟨⟨i2, j2, c1, c2, c3⟩, d⟩ := h2
  have := b i2 j2 c1 c3
  have := d i j a1 a3
  omega
theorem zl_sp {c : Nat → Int} (h : ∃ i j : Nat, i + j ≤ 4 ∧ c (5 * i + j) ≠ 0) : zlo c (zleast c) := by
  obtain ⟨i0, j0, h1, h2⟩ := h
  have g : ∀ n d : Nat, n + d = 5 → (∀ i j : Nat, i + j < d → c (5 * i + j) = 0) → zlo c (zleastF c n d) := by
    intro n
    induction n with
    | zero =>
      intro d hd hz
      exact absurd (hz i0 j0 (by omega)) h2
    | succ n ih =>
      intro d hd hz
      show zlo c (if 0 ≤ zlead c d then (d : Int) else zleastF c n ((d : Int) + 1))
      rcases zlead_sp c (d := d) (by omega) with ⟨q1, q2⟩ | ⟨k, k1, k2, k3, k4⟩
      · rw [if_neg (by omega), show (d : Int) + 1 = ((d + 1 : Nat) : Int) by omega]
        refine ih (d + 1) (by omega) (fun i j hij => ?_)
        by_cases e : i + j = d
        · have := q2 i (by omega)
          rwa [show d - i = j by omega] at this
        · exact hz i j (by omega)
      · rw [if_pos (by omega)]
        refine ⟨⟨k, d - k, by omega, by omega, k3⟩, fun i j a b => ?_⟩
        by_cases e : i + j < d
        · exact absurd (hz i j e) b
        · omega
  exact g 5 0 rfl (fun i j h => absurd h (Nat.not_lt_zero _))
/-- LOCAL of a CURVE at a POINT -/
def zLk (M : zCt) (cv pt : Int) : Nat → Int := zlook (M.2.1 cv.toNat) (M.1 0 3) (zpx pt (M.1 0 3)) (zpy pt (M.1 0 3)) (zpz pt (M.1 0 3))
theorem zsh_top {K : Type} [Lean.Grind.CommRing K] {p : Int} {φ : Int → K} (h : zKp K p φ) (x : Int) {n : Nat} (hn : n ≤ 4) : zshK φ x n n = 1 := by
  unfold zshK
  rw [show n - n = 0 by omega, Lean.Grind.Semiring.pow_zero, show zCH (n * 5 + n) = 1 from by
    have : ∀ n : Nat, n < 5 → zCH (n * 5 + n) = 1 := by decide +kernel
    exact this n (by omega), h.o]; grind
theorem zsh_bot {K : Type} [Lean.Grind.CommRing K] {p : Int} {φ : Int → K} (h : zKp K p φ) (x : Int) {n : Nat} (hn : n ≤ 4) : zshK φ x n 0 = φ x ^ n := by
  unfold zshK
  rw [show n - 0 = n by omega, show zCH (n * 5 + 0) = 1 from by
    have : ∀ n : Nat, n < 5 → zCH (n * 5 + 0) = 1 := by decide +kernel
    exact this n (by omega), h.o]; grind
/-- LOCAL of a CURVE is not 0 -/
theorem zLk_n0 {M : zCt} (hX : zBx M) {cv pt : Int} (ht : 0 ≤ ztop (M.2.1 cv.toNat)) (hC : zcan (M.1 0 3) (M.2.1 cv.toNat)) : ∃ i j : Nat, i + j ≤ 4 ∧ zLk M cv pt (5 * i + j) ≠ 0 := by
  obtain ⟨K, iK, φ, h⟩ := zKp_ex hX.1
  obtain ⟨d, ed⟩ : ∃ d, d = M.2.1 cv.toNat := ⟨_, rfl⟩
  obtain ⟨p, ep⟩ : ∃ p, p = M.1 0 3 := ⟨_, rfl⟩
  unfold zLk
  rw [← ed] at ht hC ⊢
  rw [← ep] at hC h ⊢
  obtain ⟨n, hn⟩ : ∃ n : Nat, (n : Int) = ztop d := ⟨(ztop d).toNat, by omega⟩
  have hn4 : n ≤ 4 := by have := zT_le d; omega
  obtain ⟨i, j, h1, h2, h3⟩ := zT_ex ht
  have hz : ∀ i j : Nat, i + j ≤ 4 → n < i + j → d (5 * i + j) = 0 := fun i j a b => zT_z a (by omega)
  have n0 : ∀ k, d k ≠ 0 → φ (d k) ≠ 0 := fun k hk e => hk ((h.z0 (hC k)).1 e)
  by_cases e1 : pt < p * p
  · refine ⟨i, j, h1, fun e => n0 _ h3 ?_⟩
    have k1 := zK_look1 h d (zpx pt p) (zpy pt p) h1
    rw [show zpz pt p = 1 from if_pos e1] at e
    rw [e, h.z] at k1
    unfold zLN at k1
    rw [ka_s_one (k := i) 5 (by omega) (fun a ha hne => ka_s_zero _ (fun b hb => by
      by_cases q : i ≤ a ∧ j ≤ b
      · rw [if_pos q, hz a b (by omega) (by omega), h.z]; grind
      · rw [if_neg q])), ka_s_one (k := j) (4 - i + 1) (by omega) (fun b hb hne => by
      by_cases q : i ≤ i ∧ j ≤ b
      · rw [if_pos q, hz i b (by omega) (by omega), h.z]; grind
      · rw [if_neg q]), if_pos ⟨Nat.le_refl _, Nat.le_refl _⟩, zsh_top h _ (by omega), zsh_top h _ (by omega)] at k1
    grind
  · rw [show zpz pt p = 0 from if_neg e1]
    by_cases e2 : pt = p * p + p
    · rw [show zpx pt p = 0 from by unfold zpx; rw [if_neg e1, if_pos e2]]
      refine ⟨i, n - i - j, by omega, fun e => n0 _ h3 ?_⟩
      have k1 := zK_look0 h d (zpy pt p) (A := i) (B := n - i - j) hn (by omega)
      rw [e, h.z] at k1
      unfold zLLl at k1
      rw [ka_s_one (k := i) 5 (by omega) (fun a ha hne => ka_s_zero _ (fun b hb => by rw [if_neg (fun q => hne q.1)])), ka_s_one (k := j) (4 - i + 1) (by omega) (fun b hb hne => by rw [if_neg (by omega)]), if_pos (by omega)] at k1
      exact k1.symm
    · rw [show zpx pt p = 1 from by unfold zpx; rw [if_neg e1, if_neg e2]]
      -- of the TERMS of the DEGREE the one with the greatest j
      obtain ⟨t, ⟨ht1, ht2⟩, hmin⟩ := ka_min (P := fun t : Nat => t ≤ n ∧ d (5 * t + (n - t)) ≠ 0) i ⟨by omega, by rw [show n - i = j by omega]; exact h3⟩
      refine ⟨n - t, 0, by omega, fun e => n0 _ ht2 ?_⟩
      have k1 := zK_lookF h d (zpy pt p) (A := n - t) (B := 0) hn (by omega)
      rw [e, h.z] at k1
      unfold zLF at k1
      rw [ka_s_one (k := t) 5 (by omega) (fun a ha hne => ka_s_zero _ (fun b hb => by
        by_cases q : a + b + 0 = n ∧ n - t ≤ b
        · have hm : ¬ (a ≤ n ∧ d (5 * a + (n - a)) ≠ 0) := hmin a (by omega)
          have hz2 : d (5 * a + b) = 0 := Classical.byContradiction fun z => hm ⟨by omega, by rw [show n - a = b by omega]; exact z⟩
          rw [if_pos q, hz2, h.z]; grind
        · rw [if_neg q])), ka_s_one (k := n - t) (4 - t + 1) (by omega) (fun b hb hne => by rw [if_neg (by omega)]), if_pos (by omega), zsh_top h _ (by omega)] at k1
      grind
/-- VALUE 0 is LOCAL 0 there -/
theorem zLk_0 {M : zCt} (hX : zBx M) {cv pt : Int} (ht : 0 ≤ ztop (M.2.1 cv.toNat)) : zval (M.2.1 cv.toNat) (zpx pt (M.1 0 3)) (zpy pt (M.1 0 3)) (zpz pt (M.1 0 3)) (M.1 0 3) = zLk M cv pt 0 := by
  obtain ⟨K, iK, φ, h⟩ := zKp_ex hX.1
  have hp := zPr_2 hX.1
  obtain ⟨d, ed⟩ : ∃ d, d = M.2.1 cv.toNat := ⟨_, rfl⟩
  obtain ⟨p, ep⟩ : ∃ p, p = M.1 0 3 := ⟨_, rfl⟩
  unfold zLk
  rw [← ed] at ht ⊢
  rw [← ep] at h hp ⊢
  obtain ⟨n, hn⟩ : ∃ n : Nat, (n : Int) = ztop d := ⟨(ztop d).toNat, by omega⟩
  refine h.ij (zval_rng (by omega)) (zlook_can (by omega) _) ?_
  rw [zK_val h]
  by_cases e1 : pt < p * p
  · rw [show zpz pt p = 1 from if_pos e1]
    have k := zK_look1 h d (zpx pt p) (zpy pt p) (A := 0) (B := 0) (by omega)
    rw [show 5 * 0 + 0 = 0 from rfl] at k
    rw [k]
    unfold zVS zLN
    refine ka_s_congr _ (fun i hi => ?_)
    rw [← ka_s_mulr]
    refine ka_s_congr _ (fun j hj => ?_)
    rw [if_pos (Or.inl rfl), if_pos (by omega), zsh_bot h _ (by omega), zsh_bot h _ (by omega)]; grind
  · rw [show zpz pt p = 0 from if_neg e1, if_pos rfl, ← hn]
    by_cases e2 : pt = p * p + p
    · rw [show zpx pt p = 0 from by unfold zpx; rw [if_neg e1, if_pos e2], show zpy pt p = 1 from by unfold zpy; rw [if_neg e1, if_pos e2]]
      have k := zK_look0 h d 1 (A := 0) (B := 0) hn (by omega)
      rw [show 5 * 0 + 0 = 0 from rfl] at k
      rw [k]
      unfold zVS zLLl
      refine ka_s_congr _ (fun i hi => ?_)
      rw [← ka_s_mulr]
      refine ka_s_congr _ (fun j hj => ?_)
      rw [h.z, h.o, Lean.Grind.Semiring.one_pow]
      by_cases q : i = 0
      · rw [q, Lean.Grind.Semiring.pow_zero]
        by_cases q2 : 0 + j = n
        · rw [if_pos (by omega), if_pos (by omega)]; grind
        · rw [if_neg (by omega), if_neg (by omega)]; grind
      · rw [ka_0pow q, show (if i = 0 ∧ i + j + 0 = n then φ (d (5 * i + j)) else 0) = 0 from if_neg (fun z => q z.1)]; grind
    · rw [show zpx pt p = 1 from by unfold zpx; rw [if_neg e1, if_neg e2]]
      have k := zK_lookF h d (zpy pt p) (A := 0) (B := 0) hn (by omega)
      rw [show 5 * 0 + 0 = 0 from rfl] at k
      rw [k]
      unfold zVS zLF
      refine ka_s_congr _ (fun i hi => ?_)
      rw [← ka_s_mulr]
      refine ka_s_congr _ (fun j hj => ?_)
      rw [h.o, Lean.Grind.Semiring.one_pow]
      by_cases q2 : i + j = n
      · rw [if_pos (by omega), if_pos (by omega), zsh_bot h _ (by omega)]; grind
      · rw [if_neg (by omega), if_neg (by omega)]; grind
end ZMh
