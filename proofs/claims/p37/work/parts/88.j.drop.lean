section ZMo
theorem zw_keep_o {M : zCt} {a i : Nat} (h : a ≠ 40) (h2 : a ≠ 41) (h3 : ¬ (a = 0 ∧ (i = 5 ∨ i = 6))) : (zw_keep M).1 a i = M.1 a i := by
  show zset (zset (za (za M.1 0 5 (min (M.1 0 5 + 1) 20)) 0 6 (if M.1 0 6 + 1 < 20 then M.1 0 6 + 1 else 0)) 40 (zset (M.1 40) (M.1 0 6).toNat (M.1 0 3))) 41 (zset (M.1 41) (M.1 0 6).toNat (M.1 0 4)) a i = _
  rw [zset_ne _ _ h2, zset_ne _ _ h, za_ne (by omega), za_ne (by omega)]
/-- other CURVES, all else the same -/
theorem zB_shelf {i j : Int} {M N : zCt} {S U : zS2} (h : zBm i M S) (hN : ∀ a i : Nat, a ≠ 3 → ¬ (20 ≤ a ∧ a < 40) → ¬ (a = 0 ∧ (i = 4 ∨ 10 ≤ i)) → N.1 a i = M.1 a i) (hN2 : N.2.2 = M.2.2) (hU : ∀ a i : Nat, a ≠ 3 → a ≠ 5 → ¬ (a = 4 ∨ (9 ≤ a ∧ a ≤ 19)) → ¬ (a = 0 ∧ (i = 13 ∨ i = 23 ∨ i = 24 ∨ i = 26 ∨ i = 33)) → U a i = S a i) (hs : zBs N U) (hx : ∀ c : Nat, (c : Int) < N.1 0 4 → zflt (N.2.1 c)) : zBm j N U := by
  obtain ⟨⟨ht, hf, hs0, hp⟩, hx0⟩ := h
  refine ⟨⟨⟨?_, fun k hk => ?_⟩, hf.same (fun i hi => hN 0 i (by omega) (by omega) (by omega)) (fun i => hN 1 i (by omega) (by omega) (by omega)) (fun i hi => hU 0 i (by omega) (by omega) (by omega) (by omega)) (fun i => hU 2 i (by omega) (by omega) (by omega) (by omega)), hs, hp.same (hN 0 3 (by omega) (by omega) (by omega)) (hN 0 5 (by omega) (by omega) (by omega)) (hN 0 6 (by omega) (by omega) (by omega)) (funext fun i => hN 40 i (by omega) (by omega) (by omega)) (funext fun i => hN 41 i (by omega) (by omega) (by omega)) (by rw [hN2]) (by rw [hN2]) (hU 0 35 (by omega) (by omega) (by omega) (by omega)) (fun i => hU 20 i (by omega) (by omega) (by omega) (by omega))⟩, ?_, hx, fun j hj c hc => ?_⟩
  · rw [hU 0 1 (by omega) (by omega) (by omega) (by omega), hN 0 2 (by omega) (by omega) (by omega)]; exact ht.1
  · rw [hN 0 2 (by omega) (by omega) (by omega)] at hk
    rw [hU 1 k (by omega) (by omega) (by omega) (by omega), hN 2 k (by omega) (by omega) (by omega)]; exact ht.2 k hk
  · rw [hN 0 3 (by omega) (by omega) (by omega)]; exact hx0.1
  · rw [hN 0 5 (by omega) (by omega) (by omega)] at hj
    rw [hN 0 6 (by omega) (by omega) (by omega), hN 41 _ (by omega) (by omega) (by omega)] at hc
    rw [hN 0 6 (by omega) (by omega) (by omega), hN2]
    exact hx0.2.2 j hj c hc
theorem zremC_sp (C : Nat → Nat → Int) (i : Nat) : ∀ m c : Nat, zremC C i ((i : Int) + m) c = if i ≤ c ∧ c < i + m then C (c + 1) else C c := by
  have g : ∀ m c : Nat, zfor (fun (k : Int) (C : Nat → Nat → Int) => zset C k.toNat (C (k + 1).toNat)) (i : Int) C m c = if i ≤ c ∧ c < i + m then C (c + 1) else C c := fun m => by
    induction m with
    | zero => intro c; rw [if_neg (by omega)]; rfl
    | succ m ih =>
      intro c
      show zset (zfor (fun (k : Int) (C : Nat → Nat → Int) => zset C k.toNat (C (k + 1).toNat)) (i : Int) C m) (((i : Int) + (m : Int)).toNat) ((zfor (fun (k : Int) (C : Nat → Nat → Int) => zset C k.toNat (C (k + 1).toNat)) (i : Int) C m) (((i : Int) + (m : Int)) + 1).toNat) c = _
      rw [show ((i : Int) + (m : Int)).toNat = i + m by omega, show (((i : Int) + (m : Int)) + 1).toNat = i + m + 1 by omega, ih (i + m + 1), if_neg (by omega)]
      by_cases e : c = i + m
      · rw [e, zset_self, if_pos (by omega)]
      · rw [zset_ne _ _ e, ih]
        by_cases e2 : i ≤ c ∧ c < i + m
        · rw [if_pos e2, if_pos (by omega)]
        · rw [if_neg e2, if_neg (by omega)]
  intro m c
  unfold zremC
  rw [show ((i : Int) + (m : Int) - (i : Int)).toNat = m by omega]
  exact g m c
theorem zremL_sp (lt : Nat → Int) (i : Nat) : ∀ m c q : Nat, q < 6 → zremL lt i ((i : Int) + m) (6 * c + q) = if i ≤ c ∧ c < i + m then lt (6 * (c + 1) + q) else lt (6 * c + q) := by
  have g : ∀ m c q : Nat, q < 6 → zfor (fun (k : Int) (t : Nat → Int) => zcpy t t ((k + 1) * 6).toNat (k * 6).toNat (6 : Int).toNat) (i : Int) lt m (6 * c + q) = if i ≤ c ∧ c < i + m then lt (6 * (c + 1) + q) else lt (6 * c + q) := fun m => by
    induction m with
    | zero => intro c q _; rw [if_neg (by omega)]; rfl
    | succ m ih =>
      intro c q hq
      obtain ⟨T, hT⟩ : ∃ T, T = zfor (fun (k : Int) (t : Nat → Int) => zcpy t t ((k + 1) * 6).toNat (k * 6).toNat (6 : Int).toNat) (i : Int) lt m := ⟨_, rfl⟩
      show zcpy (zfor (fun (k : Int) (t : Nat → Int) => zcpy t t ((k + 1) * 6).toNat (k * 6).toNat (6 : Int).toNat) (i : Int) lt m) (zfor (fun (k : Int) (t : Nat → Int) => zcpy t t ((k + 1) * 6).toNat (k * 6).toNat (6 : Int).toNat) (i : Int) lt m) ((((i : Int) + (m : Int)) + 1) * 6).toNat (((i : Int) + (m : Int)) * 6).toNat (6 : Int).toNat (6 * c + q) = _
      rw [← hT] at ih ⊢
      rw [show ((((i : Int) + (m : Int)) + 1) * 6).toNat = 6 * (i + m + 1) by omega, show (((i : Int) + (m : Int)) * 6).toNat = 6 * (i + m) by omega, show (6 : Int).toNat = 6 from rfl]
      unfold zcpy
      by_cases e : c = i + m
      · rw [pk_cpy_in (by omega) (by omega), if_pos (by omega), show 6 * (i + m + 1) + (6 * c + q - 6 * (i + m)) = 6 * (i + m + 1) + q by omega, ih _ _ hq, if_neg (by omega), e]
      · rw [pk_cpy_out (by omega), ih _ _ hq]
        by_cases e2 : i ≤ c ∧ c < i + m
        · rw [if_pos e2, if_pos (by omega)]
        · rw [if_neg e2, if_neg (by omega)]
  intro m c q hq
  unfold zremL
  rw [show ((i : Int) + (m : Int) - (i : Int)).toNat = m by omega]
  exact g m c q hq
end ZMo
