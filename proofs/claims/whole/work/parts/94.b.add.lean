section ZGb
theorem zclr_sp (n : Nat) (hn : n < 6) (lt : Nat → Int) (q : Nat) : zclr n lt 6 q = if 6 * n ≤ q ∧ q < 6 * n + 6 then 0 else lt q := by
  unfold zclr
  rw [show ((6 : Int) - 0).toNat = 6 from rfl]
  have h : (fun (k : Nat) (t : Nat → Int) => t q = if 6 * n ≤ q ∧ q < 6 * n + k then 0 else lt q) 6 (zfor (fun i t => zsetL n t i 0) 0 lt 6) := by
    refine zfor_ix (I := fun (k : Nat) (t : Nat → Int) => t q = if 6 * n ≤ q ∧ q < 6 * n + k then 0 else lt q) (by rw [if_neg (by omega)]) 6 (fun k t hk ht => ?_)
    show zsetL n t (0 + (k : Int)) 0 q = _
    unfold zsetL
    rw [if_pos (by omega), show ((n : Int) * 6 + (0 + (k : Int))).toNat = 6 * n + k by omega]
    unfold zup
    by_cases e : q = 6 * n + k
    · rw [if_pos e, if_pos (by omega)]
    · rw [if_neg e, ht]
      by_cases y : 6 * n ≤ q ∧ q < 6 * n + k
      · rw [if_pos y, if_pos (by omega)]
      · rw [if_neg y, if_neg (by omega)]
  exact h
theorem zB_addM {i j : Int} {M : zCt} {S : zS2} (h : zBm i M S) (hC : zCI M) (hn6 : M.1 0 4 < 6) (hg : ∀ q : Nat, q < 25 → S 3 (25 * 144 + q) = M.1 27 q) (hf : zflt (M.1 27)) (ht : 1 ≤ ztop (M.1 27)) : ∃ U : zS2, za (za (zm_copies S (S 0 13) 144) 5 ((zm_copies S (S 0 13) 144) 0 13).toNat 0) 0 13 ((za (zm_copies S (S 0 13) 144) 5 ((zm_copies S (S 0 13) 144) 0 13).toNat 0) 0 13 + 1) = U ∧ U 0 13 - 1 = M.1 0 4 ∧ zBm j (zw_add M) U := by
  have hB := h.1.2.2.1
  have hcn := hC.cn
  obtain ⟨n, hn⟩ : ∃ n : Nat, M.1 0 4 = n := ⟨(M.1 0 4).toNat, by omega⟩
  have s13 : S 0 13 = n := by rw [hB.2.1, hn]
  have sp := zm_copies_sp S n 144
  obtain ⟨V, hV⟩ : ∃ V, V = zm_copies S (n : Int) ((144 : Nat) : Int) := ⟨_, rfl⟩
  have hV' : zm_copies S (S 0 13) 144 = V := by rw [hV, s13]; rfl
  rw [← hV] at sp
  have v13 : V 0 13 = n := by rw [sp, if_neg (by omega), s13]
  rw [hV', v13, Int.toNat_natCast, za_ne (by omega), v13]
  obtain ⟨U, hU⟩ : ∃ U, U = za (za V 5 n 0) 0 13 ((n : Int) + 1) := ⟨_, rfl⟩
  rw [← hU]
  have u13 : U 0 13 = (n : Int) + 1 := by rw [hU, za_same]
  have uo : ∀ a i : Nat, ¬ (a = 0 ∧ i = 13) → ¬ (a = 5 ∧ i = n) → ¬ (a = 3 ∧ 25 * n ≤ i ∧ i < 25 * n + 25) → U a i = S a i := fun a i h1 h2 h3 => by
    rw [hU, za_ne h1, za_ne h2, sp, if_neg h3]
  have ug : ∀ q : Nat, q < 25 → U 3 (25 * n + q) = M.1 27 q := fun q hq => by
    rw [hU, za_ne (by omega), za_ne (by omega), sp, if_pos (by omega), ← hg q hq]
    exact congrArg (S 3) (by omega)
  have un : U 5 n = 0 := by rw [hU, za_ne (by omega), za_same]
  have n1 : ∀ a i : Nat, a ≠ 3 → ¬ (a = 0 ∧ i = 4) → (zw_add M).1 a i = M.1 a i := fun a i h1 h2 => by
    unfold zw_add
    dsimp only
    rw [zset_ne _ _ h1, za_ne h2]
  have n3 : (zw_add M).1 3 = zclr (n : Int) (M.1 3) 6 := by
    unfold zw_add
    dsimp only
    rw [zset_self, hn]
  have n4 : (zw_add M).1 0 4 = (n : Int) + 1 := by
    unfold zw_add
    dsimp only
    rw [zset_ne _ _ (by decide), za_same, hn]
  have nC : (zw_add M).2.1 = zset M.2.1 n (M.1 27) := by
    unfold zw_add
    dsimp only
    rw [hn, Int.toNat_natCast]
  refine ⟨U, rfl, by rw [u13, hn]; omega, zB_shelf h (fun a i h1 h2 h3 => n1 a i h1 (by omega)) rfl (fun a i h1 h2 h3 h4 => uo a i (by omega) (by omega) (by omega)) ⟨?_, ?_, fun c hc => ?_⟩ (fun c hc => ?_)⟩
  · rw [uo 0 10 (by omega) (by omega) (by omega), n1 0 3 (by omega) (by omega)]
    exact hB.1
  · rw [u13, n4]
  · rw [n4] at hc
    rw [nC]
    by_cases e : c = n
    · rw [e, zset_self]
      refine ⟨fun q hq => ug q hq, fun k hk => ?_, by omega⟩
      rw [un, n3, zclr_sp n (by omega), if_pos (by omega)]
      unfold zlt5
      simp
    · rw [zset_ne _ _ e]
      obtain ⟨b1, b2, b3⟩ := hB.2.2 c (by omega)
      refine ⟨fun q hq => by rw [uo 3 _ (by omega) (by omega) (by omega)]; exact b1 q hq, fun k hk => ?_, b3⟩
      rw [uo 5 c (by omega) (by omega) (by omega), n3, zclr_sp n (by omega), if_neg (by omega)]
      exact b2 k hk
  · rw [n4] at hc
    rw [nC]
    by_cases e : c = n
    · rw [e, zset_self]; exact hf
    · rw [zset_ne _ _ e]; exact h.2.2.1 c (by omega)
end ZGb
