section ZMo
theorem zw_keep_o {M : zCt} {a i : Nat} (h : a ≠ 40) (h2 : a ≠ 41) (h3 : ¬ (a = 0 ∧ (i = 5 ∨ i = 6))) : (zw_keep M).1 a i = M.1 a i := by
  show zset (zset (za (za M.1 0 5 (min (M.1 0 5 + 1) 20)) 0 6 (if M.1 0 6 + 1 < 20 then M.1 0 6 + 1 else 0)) 40 (zset (M.1 40) (M.1 0 6).toNat (M.1 0 3))) 41 (zset (M.1 41) (M.1 0 6).toNat (M.1 0 4)) a i = _
  rw [zset_ne _ _ h2, zset_ne _ _ h, za_ne (by omega), za_ne (by omega)]
/-- the bond, once what stood there is kept -/
theorem zB_keepM {i j : Int} {M : zCt} {S : zS2} (h : zBm i M S) (hC : zCI M) : zBm j (zw_keep M) (zm_keeps S) := by
  obtain ⟨k1, k2⟩ := zB_keep h hC
  obtain ⟨⟨ht, hf, hs, hp⟩, hx⟩ := h
  have hn := hC.cn
  have hct := hC.ct
  obtain ⟨u, hu⟩ : ∃ u : Nat, M.1 0 5 = u := ⟨(M.1 0 5).toNat, by omega⟩
  obtain ⟨v, _, _, so, _, _⟩ := zm_keeps_sp S u (by rw [hp.1, hu]) (by omega)
  have mo : ∀ a i : Nat, a ≠ 40 → a ≠ 41 → ¬ (a = 0 ∧ (i = 5 ∨ i = 6)) → (zw_keep M).1 a i = M.1 a i := fun a i h1 h2 h3 => zw_keep_o h1 h2 h3
  refine ⟨⟨⟨?_, fun k hk => ?_⟩, hf.same (fun i hi => mo 0 i (by omega) (by omega) (by omega)) (fun i => mo 1 i (by omega) (by omega) (by omega)) (fun i hi => so 0 i (by omega) (by omega)) (fun i => so 2 i (by omega) (by omega)), hs.same (mo 0 3 (by omega) (by omega) (by omega)) (mo 0 4 (by omega) (by omega) (by omega)) (funext fun i => mo 3 i (by omega) (by omega) (by omega)) rfl (so 0 10 (by omega) (by omega)) (so 0 13 (by omega) (by omega)) (fun i _ => so 3 i (by omega) (by omega)) (fun i _ => so 5 i (by omega) (by omega)) hn.2, k1⟩, k2⟩
  · rw [so 0 1 (by omega) (by omega), mo 0 2 (by omega) (by omega) (by omega)]; exact ht.1
  · rw [mo 0 2 (by omega) (by omega) (by omega)] at hk
    rw [so 1 k (by omega) (by omega), mo 2 k (by omega) (by omega) (by omega)]; exact ht.2 k hk
/-- other CURVES, all else the same -/
theorem zB_shelf {i j : Int} {M N : zCt} {S U : zS2} (h : zBm i M S) (hN : ∀ a i : Nat, a ≠ 3 → ¬ (20 ≤ a ∧ a < 40) → ¬ (a = 0 ∧ (i = 4 ∨ 10 ≤ i)) → N.1 a i = M.1 a i) (hN2 : N.2.2 = M.2.2) (hU : ∀ a i : Nat, a ≠ 3 → a ≠ 5 → ¬ (a = 4 ∨ (9 ≤ a ∧ a ≤ 19)) → ¬ (a = 0 ∧ (i = 13 ∨ i = 23 ∨ i = 24 ∨ i = 26 ∨ i = 33)) → U a i = S a i) (hs : zBs N U) (hx : ∀ c : Nat, (c : Int) < N.1 0 4 → zflt (N.2.1 c)) : zBm j N U := by
  obtain ⟨⟨ht, hf, hs0, hp⟩, hx0⟩ := h
  refine ⟨⟨⟨?_, fun k hk => ?_⟩, hf.same (fun i hi => hN 0 i (by omega) (by omega) (by omega)) (fun i => hN 1 i (by omega) (by omega) (by omega)) (fun i hi => hU 0 i (by omega) (by omega) (by omega) (by omega)) (fun i => hU 2 i (by omega) (by omega) (by omega) (by omega)), hs, hp.same (hN 0 3 (by omega) (by omega) (by omega)) (hN 0 5 (by omega) (by omega) (by omega)) (hN 0 6 (by omega) (by omega) (by omega)) (funext fun i => hN 40 i (by omega) (by omega) (by omega)) (funext fun i => hN 41 i (by omega) (by omega) (by omega)) (by rw [hN2]) (by rw [hN2]) (hU 0 35 (by omega) (by omega) (by omega) (by omega)) (fun i => hU 20 i (by omega) (by omega) (by omega) (by omega))⟩, ?_, hx, fun j hj c hc => ?_⟩
  · rw [hU 0 1 (by omega) (by omega) (by omega) (by omega), hN 0 2 (by omega) (by omega) (by omega)]; exact ht.1
  · rw [hN 0 2 (by omega) (by omega) (by omega)] at hk
    rw [hU 1 k (by omega) (by omega) (by omega) (by omega), hN 2 k (by omega) (by omega) (by omega)]; exact ht.2 k hk
  · rw [hN 0 3 (by omega) (by omega) (by omega)]; exact hx0.1
  · rw [hN 0 5 (by omega) (by omega) (by omega)] at hj
    rw [hN 0 6 (by omega) (by omega) (by omega), hN 41 _ (by omega) (by omega) (by omega)] at hc
    rw [hN 0 6 (by omega) (by omega) (by omega), hN2]
    exact hx0.2.2 j hj c hc
theorem zremC_sp (C : Nat → Nat → Int) (i : Nat) : ∀ m c : Nat, zremC C i ((i : Int) + m) c = if i ≤ c ∧ c < i + m then C (c + 1) else C c := by
  have g : ∀ m c : Nat, zfor (fun (k : Int) (C : Nat → Nat → Int) => zset C k.toNat (C (k + 1).toNat)) (i : Int) C m c = if i ≤ c ∧ c < i + m then C (c + 1) else C c := fun m => by
    induction m with
    | zero => intro c; rw [if_neg (by omega)]; rfl
    | succ m ih =>
      intro c
      show zset (zfor (fun (k : Int) (C : Nat → Nat → Int) => zset C k.toNat (C (k + 1).toNat)) (i : Int) C m) (((i : Int) + (m : Int)).toNat) ((zfor (fun (k : Int) (C : Nat → Nat → Int) => zset C k.toNat (C (k + 1).toNat)) (i : Int) C m) (((i : Int) + (m : Int)) + 1).toNat) c = _
      rw [show ((i : Int) + (m : Int)).toNat = i + m by omega, show (((i : Int) + (m : Int)) + 1).toNat = i + m + 1 by omega, ih (i + m + 1), if_neg (by omega)]
      by_cases e : c = i + m
      · rw [e, zset_self, if_pos (by omega)]
      · rw [zset_ne _ _ e, ih]
        by_cases e2 : i ≤ c ∧ c < i + m
        · rw [if_pos e2, if_pos (by omega)]
        · rw [if_neg e2, if_neg (by omega)]
  intro m c
  unfold zremC
  rw [show ((i : Int) + (m : Int) - (i : Int)).toNat = m by omega]
  exact g m c
theorem zremL_sp (lt : Nat → Int) (i : Nat) : ∀ m c q : Nat, q < 6 → zremL lt i ((i : Int) + m) (6 * c + q) = if i ≤ c ∧ c < i + m then lt (6 * (c + 1) + q) else lt (6 * c + q) := by
  have g : ∀ m c q : Nat, q < 6 → zfor (fun (k : Int) (t : Nat → Int) => zcpy t t ((k + 1) * 6).toNat (k * 6).toNat (6 : Int).toNat) (i : Int) lt m (6 * c + q) = if i ≤ c ∧ c < i + m then lt (6 * (c + 1) + q) else lt (6 * c + q) := fun m => by
    induction m with
    | zero => intro c q _; rw [if_neg (by omega)]; rfl
    | succ m ih =>
      intro c q hq
      obtain ⟨T, hT⟩ : ∃ T, T = zfor (fun (k : Int) (t : Nat → Int) => zcpy t t ((k + 1) * 6).toNat (k * 6).toNat (6 : Int).toNat) (i : Int) lt m := ⟨_, rfl⟩
      show zcpy (zfor (fun (k : Int) (t : Nat → Int) => zcpy t t ((k + 1) * 6).toNat (k * 6).toNat (6 : Int).toNat) (i : Int) lt m) (zfor (fun (k : Int) (t : Nat → Int) => zcpy t t ((k + 1) * 6).toNat (k * 6).toNat (6 : Int).toNat) (i : Int) lt m) ((((i : Int) + (m : Int)) + 1) * 6).toNat (((i : Int) + (m : Int)) * 6).toNat (6 : Int).toNat (6 * c + q) = _
      rw [← hT] at ih ⊢
      rw [show ((((i : Int) + (m : Int)) + 1) * 6).toNat = 6 * (i + m + 1) by omega, show (((i : Int) + (m : Int)) * 6).toNat = 6 * (i + m) by omega, show (6 : Int).toNat = 6 from rfl]
      unfold zcpy
      by_cases e : c = i + m
      · rw [pk_cpy_in (by omega) (by omega), if_pos (by omega), show 6 * (i + m + 1) + (6 * c + q - 6 * (i + m)) = 6 * (i + m + 1) + q by omega, ih _ _ hq, if_neg (by omega), e]
      · rw [pk_cpy_out (by omega), ih _ _ hq]
        by_cases e2 : i ≤ c ∧ c < i + m
        · rw [if_pos e2, if_pos (by omega)]
        · rw [if_neg e2, if_neg (by omega)]
  intro m c q hq
  unfold zremL
  rw [show ((i : Int) + (m : Int) - (i : Int)).toNat = m by omega]
  exact g m c q hq
theorem zm_drop_sp (S : zS2) (cv : Nat) : ∀ m : Nat, ∀ a i : Nat, (zfor zm_drop_L26 cv S m) a i = if a = 3 ∧ 25 * cv ≤ i ∧ i < 25 * (cv + m) then S 3 (i + 25) else if a = 5 ∧ cv ≤ i ∧ i < cv + m then S 5 (i + 1) else S a i := fun m => by
  induction m with
  | zero => intro a i; rw [if_neg (by omega), if_neg (by omega)]; rfl
  | succ m ih =>
    intro a i
    obtain ⟨T, hT⟩ : ∃ T, T = zfor zm_drop_L26 cv S m := ⟨_, rfl⟩
    have hc := zm_copies_sp T (cv + m) (cv + m + 1)
    have e : zfor zm_drop_L26 cv S (m + 1) = za (zm_copies T (cv + m : Nat) (cv + m + 1 : Nat)) 5 (cv + m) ((zm_copies T (cv + m : Nat) (cv + m + 1 : Nat)) 5 (cv + m + 1)) := by
      rw [hT]
      show za (zm_copies (zfor zm_drop_L26 cv S m) ((cv : Int) + (m : Int)) (((cv : Int) + (m : Int)) + 1)) 5 (((cv : Int) + (m : Int)).toNat) ((zm_copies (zfor zm_drop_L26 cv S m) ((cv : Int) + (m : Int)) (((cv : Int) + (m : Int)) + 1)) 5 ((((cv : Int) + (m : Int)) + 1).toNat)) = _
      rw [show ((cv : Int) + (m : Int)).toNat = cv + m by omega, show (((cv : Int) + (m : Int)) + 1).toNat = cv + m + 1 by omega, show ((cv : Int) + (m : Int)) = ((cv + m : Nat) : Int) by omega, show ((cv + m : Nat) : Int) + 1 = ((cv + m + 1 : Nat) : Int) by omega]
    rw [← hT] at ih
    rw [e]
    by_cases q : a = 5 ∧ i = cv + m
    · rw [q.1, q.2, za_same, if_neg (by omega), if_pos (by omega), hc, if_neg (by omega), ih, if_neg (by omega), if_neg (by omega)]
    · rw [za_ne q, hc]
      by_cases q2 : a = 3 ∧ 25 * (cv + m) ≤ i ∧ i < 25 * (cv + m) + 25
      · rw [if_pos q2, if_pos (by omega), ih, if_neg (by omega), if_neg (by omega)]
        exact congrArg (S 3) (by omega)
      · rw [if_neg q2, ih]
        by_cases q3 : a = 3 ∧ 25 * cv ≤ i ∧ i < 25 * (cv + m)
        · rw [if_pos q3, if_pos (by omega)]
        · rw [if_neg q3, if_neg (show ¬ (a = 3 ∧ 25 * cv ≤ i ∧ i < 25 * (cv + (m + 1))) by omega)]
          by_cases q4 : a = 5 ∧ cv ≤ i ∧ i < cv + m
          · rw [if_pos q4, if_pos (by omega)]
          · rw [if_neg q4, if_neg (by omega)]
theorem zfact_31 (L : Nat) : zlK_31 zBm L := by
  intro i M S a1 _ _ hR hC hI _
  have hB := hR.1.2.2.1
  have hn := hC.cn
  by_cases h : 0 ≤ a1 ∧ a1 < M.1 0 4
  · have hK := zB_keepM (j := i + 8) hR hC
    obtain ⟨cv, hcv⟩ : ∃ cv : Nat, a1 = cv := ⟨a1.toNat, by omega⟩
    obtain ⟨n, hnn⟩ : ∃ n : Nat, M.1 0 4 = ((n + 1 : Nat) : Int) := ⟨(M.1 0 4 - 1).toNat, by omega⟩
    obtain ⟨N, hN⟩ : ∃ N, N = zw_keep M := ⟨_, rfl⟩
    obtain ⟨U, hU⟩ : ∃ U, U = zm_keeps S := ⟨_, rfl⟩
    rw [← hN, ← hU] at hK
    have n4 : N.1 0 4 = ((n + 1 : Nat) : Int) := by rw [hN, zw_keep_o (by decide) (by decide) (by decide), hnn]
    have n2 : N.2.1 = M.2.1 := by rw [hN]; rfl
    have hKs := hK.1.2.2.1
    have u13 : U 0 13 = ((n + 1 : Nat) : Int) := by rw [hKs.2.1, n4]
    have ec : zc_drop M a1 = (ztop (M.2.1 cv), zw_remove N cv) := by
      unfold zc_drop
      rw [if_pos ((zc_find hC).2 h), ← hN, hcv]
      rfl
    obtain ⟨m, hm⟩ : ∃ m : Nat, cv + m = n := ⟨n - cv, by omega⟩
    obtain ⟨V, hV⟩ : ∃ V, V = zfor zm_drop_L26 cv U m := ⟨_, rfl⟩
    have em : zm_drop S a1 = (ztop (M.2.1 cv), za V 0 13 (V 0 13 - 1)) := by
      unfold zm_drop
      rw [zB_isCurve, hB.2.1, if_pos h, zlet_v, if_neg (by decide), zlet_v, ← hU, zlet_v, zlet_v, u13, hcv, show (((n + 1 : Nat) : Int) - 2 + 1 - (cv : Int)).toNat = m by omega, ← hV, zlet_v]
      have et : zm_degreeOf U (cv : Int) = ztop (M.2.1 cv) := by
        have e := zB_top hKs (c := (cv : Int)) (by rw [n4]; omega)
        rw [e, n2, Int.toNat_natCast]
      rw [et]
    have hsp := zm_drop_sp U cv m
    rw [← hV] at hsp
    have v13 : V 0 13 = ((n + 1 : Nat) : Int) := by rw [hsp, if_neg (by omega), if_neg (by omega), u13]
    rw [ec, em]
    have r4 : (zw_remove N cv).1 0 4 = n := by
      show zset (za N.1 0 4 (N.1 0 4 - 1)) 3 (zremL (N.1 3) cv (N.1 0 4 - 1)) 0 4 = _
      rw [zset_ne _ _ (by decide), za_same, n4]; omega
    have ro : ∀ a i : Nat, a ≠ 3 → ¬ (a = 0 ∧ i = 4) → (zw_remove N cv).1 a i = N.1 a i := fun a i h1 h2 => by
      show zset (za N.1 0 4 (N.1 0 4 - 1)) 3 (zremL (N.1 3) cv (N.1 0 4 - 1)) a i = _
      rw [zset_ne _ _ h1, za_ne h2]
    have r3 : (zw_remove N cv).1 3 = zremL (N.1 3) cv ((cv : Int) + m) := by
      show zset (za N.1 0 4 (N.1 0 4 - 1)) 3 (zremL (N.1 3) cv (N.1 0 4 - 1)) 3 = _
      rw [zset_self, n4, show ((n + 1 : Nat) : Int) - 1 = (cv : Int) + (m : Int) by omega]
    have rc : (zw_remove N cv).2.1 = zremC N.2.1 cv ((cv : Int) + m) := by
      show zremC N.2.1 cv (N.1 0 4 - 1) = _
      rw [n4, show ((n + 1 : Nat) : Int) - 1 = (cv : Int) + (m : Int) by omega]
    have W5 : ∀ a i : Nat, ¬ (a = 0 ∧ i = 13) → (za V 0 13 (V 0 13 - 1)) a i = V a i := fun a i h => za_ne h
    show _ ∧ zBm (i + 8) (zw_remove N cv) (za V 0 13 (V 0 13 - 1))
    refine ⟨rfl, zB_shelf hK (fun a i h1 h2 h3 => ro a i h1 (by omega)) rfl (fun a i h1 h2 h3 h4 => ?_) ⟨?_, ?_, fun c hc => ?_⟩ (fun c hc => ?_)⟩
    · rw [W5 a i (by omega), hsp, if_neg (by omega), if_neg (by omega)]
    · rw [W5 0 10 (by omega), hsp, if_neg (by omega), if_neg (by omega), ro 0 3 (by omega) (by omega)]; exact hKs.1
    · rw [za_same, r4, v13]; omega
    · rw [r4] at hc
      rw [rc, r3]
      by_cases q : cv ≤ c
      · obtain ⟨b1, b2, b3⟩ := hKs.2.2 (c + 1) (by rw [n4]; omega)
        refine ⟨fun j hj => ?_, fun k hk => ?_, ?_⟩
        · rw [W5 _ _ (by omega), hsp, if_pos (by omega), zremC_sp, if_pos (by omega), ← b1 j hj]
          exact congrArg (U 3) (by omega)
        · rw [W5 _ _ (by omega), hsp, if_neg (by omega), if_pos (by omega), zremL_sp _ _ _ _ _ hk, if_pos (by omega)]
          exact b2 k hk
        · rw [zremC_sp, if_pos (by omega)]; exact b3
      · obtain ⟨b1, b2, b3⟩ := hKs.2.2 c (by rw [n4]; omega)
        refine ⟨fun j hj => ?_, fun k hk => ?_, ?_⟩
        · rw [W5 _ _ (by omega), hsp, if_neg (by omega), if_neg (by omega), zremC_sp, if_neg (by omega)]
          exact b1 j hj
        · rw [W5 _ _ (by omega), hsp, if_neg (by omega), if_neg (by omega), zremL_sp _ _ _ _ _ hk, if_neg (by omega)]
          exact b2 k hk
        · rw [zremC_sp, if_neg (by omega)]; exact b3
    · rw [r4] at hc
      rw [rc]
      by_cases q : cv ≤ c
      · rw [zremC_sp, if_pos (by omega)]
        exact hK.2.2.1 (c + 1) (by rw [n4]; omega)
      · rw [zremC_sp, if_neg (by omega)]
        exact hK.2.2.1 c (by rw [n4]; omega)
  · have ec : zc_drop M a1 = (-1, zw_ref M 3 ((M.1 1 3) + 1)) := by
      unfold zc_drop
      rw [if_neg (fun q => h ((zc_find hC).1 q))]
      show (-1, zc_refuse M 3) = _
      rw [zB_refuse (by decide)]
      rfl
    have em : zm_drop S a1 = (-1, za S 2 3 ((S 2 3) + 1)) := by
      unfold zm_drop
      rw [zB_isCurve, hB.2.1, if_neg h]
      rfl
    rw [ec, em]
    exact ⟨rfl, zBl_ref (i := i + 8) hR.1 hC (by decide), zBx_ref hR.2 _ _⟩
end ZMo
