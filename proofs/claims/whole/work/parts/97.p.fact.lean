section ZJp
/-- the model's state before a text is read -/
def zcv0 (S : zS2) : zS2 := za (za (za (za (za S 0 5 (S 0 1)) 0 1 0) 0 6 0) 0 8 0) 0 9 (-1)
def zcv1 (S : zS2) : zS2 := za (za S 0 10 7) 0 15 0
def zcv3 (S48 : zS2) : zS2 := za (za S48 0 3 (S48 0 8)) 0 4 ((za S48 0 3 (S48 0 8)) 0 9)
def zcv4 (S83 : zS2) : zS2 := za (zfor zm_curves_L114 0 (za S83 0 13 (S83 0 15)) (((za S83 0 13 (S83 0 15)) 0 13 - 1) + 1 - 0).toNat) 0 35 0
theorem zs_curvesE (S : zS2) : zm_curves S = if (zcv3 (zm_curves_W48 1010 (zm_readsField (zcv1 (zcv0 S))))) 0 8 = 0 then ((zcv4 (zcv3 (zm_curves_W48 1010 (zm_readsField (zcv1 (zcv0 S)))))) 0 13, zcv4 (zcv3 (zm_curves_W48 1010 (zm_readsField (zcv1 (zcv0 S)))))) else zm_refuses (za (zcv3 (zm_curves_W48 1010 (zm_readsField (zcv1 (zcv0 S))))) 0 10 ((zcv0 S) 0 10)) 1 := by
  unfold zm_curves zcv4 zcv3 zcv1 zcv0
  generalize zm_curves_W48 1010 = W
  generalize zm_readsField = F
  generalize zm_refuses = R
  generalize zm_curves_L114 = L
  simp only [zlet_v]
theorem zcv_L (S : zS2) : ∀ m : Nat, m ≤ 6 → ∀ a i : Nat, (zfor zm_curves_L114 0 S m) a i = if a = 3 ∧ i < 25 * m then S 3 (150 + i) else if a = 5 ∧ i < m then S 5 (6 + i) else S a i
  | 0, _, a, i => by
    rw [if_neg (by omega), if_neg (by omega)]
    rfl
  | m + 1, hm, a, i => by
    have ih := zcv_L S m (by omega)
    have e : zfor zm_curves_L114 0 S (m + 1) = zm_curves_L114 (0 + m) (zfor zm_curves_L114 0 S m) := rfl
    rw [e]
    generalize zfor zm_curves_L114 0 S m = X at ih ⊢
    have cp := zm_copies_sp X m (6 + m)
    have e2 : zm_curves_L114 (0 + m) X = za (zm_copies X (m : Int) ((6 + m : Nat) : Int)) 5 m ((zm_copies X (m : Int) ((6 + m : Nat) : Int)) 5 (6 + m)) := by
      unfold zm_curves_L114
      generalize zm_copies = fC
      rw [show (0 : Int) + (m : Int) = m by omega, show 6 + (m : Int) = ((6 + m : Nat) : Int) by omega]
      dsimp only
      rw [zlet_v, zlet_v, Int.toNat_natCast, Int.toNat_natCast]
    rw [e2]
    generalize zm_copies X (m : Int) ((6 + m : Nat) : Int) = Y at cp ⊢
    by_cases h5 : a = 5 ∧ i = m
    · rw [h5.1, h5.2, za_same, cp, if_neg (by omega), ih, if_neg (by omega), if_neg (by omega), if_neg (by omega), if_pos (by omega)]
    · rw [za_ne h5, cp]
      by_cases h3 : a = 3 ∧ 25 * m ≤ i ∧ i < 25 * m + 25
      · rw [if_pos h3, ih, if_neg (by omega), if_neg (by omega), if_pos (show a = 3 ∧ i < 25 * (m + 1) by omega), show 25 * (6 + m) + (i - 25 * m) = 150 + i by omega]
      · rw [if_neg h3, ih]
        by_cases g3 : a = 3 ∧ i < 25 * m
        · rw [if_pos g3, if_pos (show a = 3 ∧ i < 25 * (m + 1) by omega)]
        · rw [if_neg g3, if_neg (show ¬ (a = 3 ∧ i < 25 * (m + 1)) by omega)]
          by_cases g5 : a = 5 ∧ i < m
          · rw [if_pos g5, if_pos (show a = 5 ∧ i < m + 1 by omega)]
          · rw [if_neg g5, if_neg (show ¬ (a = 5 ∧ i < m + 1) by omega)]
/-- the class's state when a text is read -/
noncomputable def zcc (M : zCt) : zCt := (za (za (za M.1 0 2 0) 0 0 ((zrt (M.1 0 2) (M.1 2) M.2.2.2.2).2 0 1)) 0 1 ((zrt (M.1 0 2) (M.1 2) M.2.2.2.2).2 0 2), M.2.1, M.2.2.1, M.2.2.2.1, (zrt (M.1 0 2) (M.1 2) M.2.2.2.2).2)
theorem zcc_e (M : zCt) : zc_curves M = if (zrt (M.1 0 2) (M.1 2) M.2.2.2.2).1 = 0 then (-1, zc_refuse (zcc M) 1) else ((zw_forget (zw_take (zcc M))).1 0 4, zw_forget (zw_take (zcc M))) := by
  unfold zc_curves
  rw [zlet_v, zlet_v, zlet_v, zlet_v, zlet_v]
  have e : (zw_fp (zw_fk (zw_len (zw_read M) 0) ((zw_len (zw_read M) 0).2.2.2.2 0 1)) ((zw_fk (zw_len (zw_read M) 0) ((zw_len (zw_read M) 0).2.2.2.2 0 1)).2.2.2.2 0 2)) = zcc M := rfl
  rw [e]
  by_cases c : (zrt (M.1 0 2) (M.1 2) M.2.2.2.2).1 = 0
  · rw [if_pos c, if_pos c, zlet_v]
  · rw [if_neg c, if_neg c, zlet_v, zlet_v]
theorem zcc_ref (M : zCt) : zc_refuse (zcc M) 1 = (za (zcc M).1 1 1 ((zcc M).1 1 1 + 1), (zcc M).2) := by
  unfold zc_refuse
  rw [if_neg (show ¬ (1 : Int) < 0 by decide), if_neg (show ¬ (5 : Int) ≤ 1 by decide), zlet_v]
  rfl
theorem zBp_to {M M' : zCt} {S S' : zS2} (h : zBp M S) (h35 : S' 0 35 = S 0 35) (h20 : S' 20 = S 20) (m3 : M'.1 0 3 = M.1 0 3) (m5 : M'.1 0 5 = M.1 0 5) (m6 : M'.1 0 6 = M.1 0 6) (m40 : M'.1 40 = M.1 40) (m41 : M'.1 41 = M.1 41) (a : M'.2.2.1 = M.2.2.1) (b : M'.2.2.2.1 = M.2.2.2.1) : zBp M' S' := by
  unfold zBp at h ⊢
  rw [h35, h20, m3, m5, m6, m40, m41, a, b]
  exact h
theorem zBx_to {M M' : zCt} (h : zBx M) (m3 : M'.1 0 3 = M.1 0 3) (m4 : M'.1 0 4 = M.1 0 4) (m5 : M'.1 0 5 = M.1 0 5) (m6 : M'.1 0 6 = M.1 0 6) (m41 : M'.1 41 = M.1 41) (a : M'.2.1 = M.2.1) (b : M'.2.2.2.1 = M.2.2.2.1) : zBx M' := by
  unfold zBx at h ⊢
  rw [m3, m4, m5, m6, m41, a, b]
  exact h
theorem zBs_to {M M' : zCt} {S S' : zS2} (h : zBs M S) (h4 : M.1 0 4 ≤ 6) (s10 : S' 0 10 = S 0 10) (s13 : S' 0 13 = S 0 13) (s3 : ∀ i : Nat, i < 150 → S' 3 i = S 3 i) (s5 : ∀ i : Nat, i < 6 → S' 5 i = S 5 i) (m3 : M'.1 0 3 = M.1 0 3) (m4 : M'.1 0 4 = M.1 0 4) (m : M'.1 3 = M.1 3) (a : M'.2.1 = M.2.1) : zBs M' S' := by
  obtain ⟨h1, h2, h3⟩ := h
  refine ⟨by rw [s10, m3]; exact h1, by rw [s13, m4]; exact h2, fun c hc => ?_⟩
  rw [m4] at hc
  obtain ⟨a1, a2, a3⟩ := h3 c hc
  rw [a, m, s5 c (by omega)]
  exact ⟨fun j hj => by rw [s3 _ (by omega)]; exact a1 j hj, a2, a3⟩
/-- what reading a text may change -/
def zDg (S S' : zS2) : Prop := ∀ a i : Nat, ¬ (a = 0 ∧ ((6 ≤ i ∧ i ≤ 10) ∨ i = 15 ∨ i = 19)) → a ≠ 4 → a ≠ 7 → a ≠ 8 → ¬ (a = 3 ∧ 150 ≤ i) → ¬ (a = 5 ∧ 6 ≤ i) → S' a i = S a i
/-- a whole text, both -/
theorem zp_text {n : Int} {T : Nat → Int} (hT : ztape n T) {Qm S : zS2} (h : zPs n T 7 (zsd (zsr Qm 0 0 (-1)) 7 0) S) (h15 : S 0 15 = 0) : zDg S (zm_curves_W48 1010 (zm_readsField S)) ∧ (((zrt n T Qm).1 = 0 ∧ zFl (zrt n T Qm).2 (zm_curves_W48 1010 (zm_readsField S))) ∨ ((zrt n T Qm).1 = 1 ∧ ∃ p, zPr p ∧ zPs n T p (zrt n T Qm).2 (zm_curves_W48 1010 (zm_readsField S)) ∧ zDr p (zrt n T Qm).2 (zm_curves_W48 1010 (zm_readsField S)))) := by
  have n0 := hT.1
  have n1 := hT.2.1
  obtain ⟨g1, g2, g3, g4⟩ := zsd_0 (zsr Qm 0 0 (-1)) 7 0
  obtain ⟨b1, _, _, _, _⟩ := zsr_0 Qm 0 0 (-1)
  obtain ⟨Q0, hQ0⟩ : ∃ Q0, Q0 = zsd (zsr Qm 0 0 (-1)) 7 0 := ⟨_, rfl⟩
  have eC : zrt n T Qm = zrt1 n T (zskS n T Q0) := by
    unfold zrt
    rw [← hQ0]
  rw [← hQ0] at h g1 g2 g3 g4
  have q00 : Q0 0 0 = 0 := by rw [g3 0 (by decide) (by decide), b1]
  have hz : zop n T (Q0 0 0) := by
    have e : zby n T (Q0 0 0 - 1) = -1 := by
      rw [q00]
      unfold zby
      rw [if_neg (by omega)]
    unfold zop
    rw [e]
    exact ⟨by omega, by decide⟩
  have fd := zp_field h hz
  obtain ⟨F, hF⟩ : ∃ F, F = if zwd n T 0 (zskS n T Q0 0 0) = 0 then (1, zskS n T Q0) else zrfd n T (zskS n T Q0) := ⟨_, rfl⟩
  have eC2 : zrt n T Qm = if F.1 = 0 then (0, F.2) else zrtF n T (n + 1 - 0).toNat F.2 := by
    rw [eC, hF]
    unfold zrt1
    by_cases c : zwd n T 0 (zskS n T Q0 0 0) = 0
    · rw [if_pos c, if_pos c]
      dsimp only
      rw [if_neg (show ¬ (1 : Int) = 0 by decide)]
    · rw [if_neg c, if_neg c]
  rw [← hF] at fd
  obtain ⟨C, hC⟩ : ∃ C, C = zrt n T Qm := ⟨_, rfl⟩
  rw [← hC] at eC2 ⊢
  obtain ⟨S1, hS1⟩ : ∃ S1, S1 = zm_readsField S := ⟨_, rfl⟩
  rw [← hS1] at fd ⊢
  obtain ⟨k, ⟨c1, c2⟩ | ⟨c1, p, hpr, c2, c3, c4⟩⟩ := fd
  · rw [if_pos c1] at eC2
    rw [zfp_loop c2.1, eC2]
    exact ⟨fun a i a1 _ _ _ _ _ => k a i (by omega), Or.inl ⟨rfl, c2⟩⟩
  · rw [if_neg (show ¬ F.1 = 0 by omega)] at eC2
    have f4 : F.2 0 4 = 0 := by rw [c4, g2]
    have dr : zDr p F.2 S1 := ⟨by rw [k 0 15 (by omega), h15, f4], by omega, fun c hc => by omega⟩
    have r2 := c2.2.2.2.1
    have lo := zp_loop hpr (fun j => (hT.2.2 j).1) (n + 1 - 0).toNat 1010 F.2 S1 c2 dr c3 (by omega) (by omega)
    rw [← eC2] at lo
    obtain ⟨X, hX⟩ : ∃ X, X = zm_curves_W48 1010 S1 := ⟨_, rfl⟩
    rw [← hX] at lo ⊢
    obtain ⟨d, e⟩ := lo
    refine ⟨fun a i a1 a2 a3 a4 a5 a6 => (d a i (by omega) a2 a3 a4 a5 a6).trans (k a i (by omega)), ?_⟩
    rcases e with ⟨e1, e2⟩ | ⟨e1, e2, e3⟩
    · exact Or.inl ⟨e1, e2⟩
    · exact Or.inr ⟨e1, p, hpr, e2, e3⟩
theorem zfact_2 (L : Nat) : zlK_2 zBm L := by
  intro i M S hi hi8 hB hC hI
  obtain ⟨⟨⟨t1, t2⟩, ⟨⟨f1, f2⟩, f3⟩, bs, bp⟩, bx⟩ := hB
  have tp := hC.tp
  have cn := hC.cn
  have n0 := tp.1
  have n1 := tp.2.1
  obtain ⟨n, hn⟩ : ∃ n, n = M.1 0 2 := ⟨_, rfl⟩
  obtain ⟨T, hT⟩ : ∃ T, T = M.1 2 := ⟨_, rfl⟩
  have eM := zs_curvesE S
  have eC := zcc_e M
  obtain ⟨S4, hS4⟩ : ∃ S4, S4 = zcv1 (zcv0 S) := ⟨_, rfl⟩
  have s4 : ∀ a j : Nat, ¬ (a = 0 ∧ (j = 5 ∨ j = 1 ∨ j = 6 ∨ j = 8 ∨ j = 9 ∨ j = 10 ∨ j = 15)) → S4 a j = S a j := fun a j h1 => by
    rw [hS4]
    unfold zcv1 zcv0
    rw [za_ne (by omega), za_ne (by omega), za_ne (by omega), za_ne (by omega), za_ne (by omega), za_ne (by omega), za_ne (by omega)]
  have s45 : S4 0 5 = n := by
    rw [hS4, hn, ← t1]
    unfold zcv1 zcv0
    rw [za_ne (by omega), za_ne (by omega), za_ne (by omega), za_ne (by omega), za_ne (by omega), za_ne (by omega), za_same]
  have s41 : S4 0 1 = 0 := by
    rw [hS4]
    unfold zcv1 zcv0
    rw [za_ne (by omega), za_ne (by omega), za_ne (by omega), za_ne (by omega), za_ne (by omega), za_same]
  have s46 : S4 0 6 = 0 := by
    rw [hS4]
    unfold zcv1 zcv0
    rw [za_ne (by omega), za_ne (by omega), za_ne (by omega), za_ne (by omega), za_same]
  have s48 : S4 0 8 = 0 := by
    rw [hS4]
    unfold zcv1 zcv0
    rw [za_ne (by omega), za_ne (by omega), za_ne (by omega), za_same]
  have s49 : S4 0 9 = -1 := by
    rw [hS4]
    unfold zcv1 zcv0
    rw [za_ne (by omega), za_ne (by omega), za_same]
  have s410 : S4 0 10 = 7 := by
    rw [hS4]
    unfold zcv1
    rw [za_ne (by omega), za_same]
  have s415 : S4 0 15 = 0 := by
    rw [hS4]
    unfold zcv1
    rw [za_same]
  have s010 : (zcv0 S) 0 10 = S 0 10 := by
    unfold zcv0
    rw [za_ne (by omega), za_ne (by omega), za_ne (by omega), za_ne (by omega), za_ne (by omega)]
  rw [s010, ← hS4] at eM
  rw [← hn, ← hT] at eC tp
  have hU : zU n T S4 := ⟨by omega, s45, fun k hk => by rw [s4 1 k (by omega), hT]; exact t2 k (by omega)⟩
  obtain ⟨g1, g2, g3, g4⟩ := zsd_0 (zsr M.2.2.2.2 0 0 (-1)) 7 0
  obtain ⟨b1, _, _, _, _⟩ := zsr_0 M.2.2.2.2 0 0 (-1)
  have q00 : zsd (zsr M.2.2.2.2 0 0 (-1)) 7 0 0 0 = 0 := by rw [g3 0 (by decide) (by decide), b1]
  have ps : zPs n T 7 (zsd (zsr M.2.2.2.2 0 0 (-1)) 7 0) S4 := ⟨hU, s48, by rw [q00, s46], by rw [q00]; omega, g1, s410⟩
  have tx := zp_text tp ps s415
  have kp := zg9.tr (zg9.field (S := S4)) (zg9.cuL 1010 (zm_readsField S4))
  have kc := zrt_kept (n := n) (T := T) (S := M.2.2.2.2)
  obtain ⟨X, hX⟩ : ∃ X, X = zm_curves_W48 1010 (zm_readsField S4) := ⟨_, rfl⟩
  rw [← hX] at tx kp eM
  obtain ⟨C, hCC⟩ : ∃ C, C = zrt n T M.2.2.2.2 := ⟨_, rfl⟩
  have ecc : zcc M = (za (za (za M.1 0 2 0) 0 0 (C.2 0 1)) 0 1 (C.2 0 2), M.2.1, M.2.2.1, M.2.2.2.1, C.2) := by
    rw [hCC, hn, hT]
    rfl
  rw [← hCC] at tx eC kc
  obtain ⟨dg, tx⟩ := tx
  obtain ⟨Y, hY⟩ : ∃ Y, Y = zcv3 X := ⟨_, rfl⟩
  have y3 : Y 0 3 = X 0 8 := by
    rw [hY]
    unfold zcv3
    rw [za_ne (by omega), za_same]
  have y4 : Y 0 4 = X 0 9 := by
    rw [hY]
    unfold zcv3
    rw [za_same, za_ne (by omega)]
  have yk : ∀ a j : Nat, ¬ (a = 0 ∧ (j = 3 ∨ j = 4)) → Y a j = X a j := fun a j h1 => by
    rw [hY]
    unfold zcv3
    rw [za_ne (by omega), za_ne (by omega)]
  rw [← hY] at eM
  -- from the first state to the last
  have ys : ∀ a j : Nat, ¬ (a = 0 ∧ (j = 1 ∨ (3 ≤ j ∧ j ≤ 10) ∨ j = 15 ∨ j = 19)) → a ≠ 4 → a ≠ 7 → a ≠ 8 → ¬ (a = 3 ∧ 150 ≤ j) → ¬ (a = 5 ∧ 6 ≤ j) → Y a j = S a j := fun a j a1 a2 a3 a4 a5 a6 => by
    rw [yk a j (by omega), dg a j (by omega) a2 a3 a4 a5 a6, s4 a j (by omega)]
  have y01 : Y 0 1 = 0 := by rw [yk 0 1 (by omega), dg 0 1 (by omega) (by omega) (by omega) (by omega) (by omega) (by omega), s41]
  rcases tx with ⟨x1, x2⟩ | ⟨x1, p, hpr, x2, x3⟩
  · -- a fault
    rw [if_pos x1, zcc_ref, ecc] at eC
    dsimp only at eC
    obtain ⟨N, hN⟩ : ∃ N, N = za (za (za M.1 0 2 0) 0 0 (C.2 0 1)) 0 1 (C.2 0 2) := ⟨_, rfl⟩
    rw [← hN] at eC
    have nk : ∀ a j : Nat, ¬ (a = 0 ∧ j ≤ 2) → N a j = M.1 a j := fun a j h1 => by rw [hN, za_ne (by omega), za_ne (by omega), za_ne (by omega)]
    have nr : ∀ a : Nat, a ≠ 0 → N a = M.1 a := fun a h1 => funext fun j => nk a j (by omega)
    rw [if_neg (show ¬ Y 0 8 = 0 by rw [yk 0 8 (by omega)]; exact x2.1)] at eM
    have eM2 : zm_curves S = (-1, za (za Y 0 10 (S 0 10)) 2 1 ((za Y 0 10 (S 0 10)) 2 1 + 1)) := by
      rw [eM]
      unfold zm_refuses
      rw [zlet_v]
      rfl
    rw [za_ne (show ¬ (2 = 0 ∧ 1 = 10) by omega)] at eM2
    obtain ⟨S', hS'⟩ : ∃ S', S' = za (za Y 0 10 (S 0 10)) 2 1 (Y 2 1 + 1) := ⟨_, rfl⟩
    obtain ⟨N', hN'⟩ : ∃ N', N' = za N 1 1 (N 1 1 + 1) := ⟨_, rfl⟩
    have sk : ∀ a j : Nat, ¬ (a = 0 ∧ j = 10) → ¬ (a = 2 ∧ j = 1) → S' a j = Y a j := fun a j h1 h2 => by rw [hS', za_ne h2, za_ne h1]
    have s10 : S' 0 10 = S 0 10 := by rw [hS', za_ne (by omega), za_same]
    have s21 : S' 2 1 = Y 2 1 + 1 := by rw [hS', za_same]
    have mk : ∀ a j : Nat, ¬ (a = 1 ∧ j = 1) → N' a j = N a j := fun a j h1 => by rw [hN', za_ne h1]
    have m11 : N' 1 1 = N 1 1 + 1 := by rw [hN', za_same]
    have mr : ∀ a : Nat, a ≠ 0 → a ≠ 1 → N' a = M.1 a := fun a h0 h1 => by
      rw [← nr a h0]
      exact funext fun j => mk a j (by omega)
    have m0 : ∀ j : Nat, 3 ≤ j → N' 0 j = M.1 0 j := fun j hj => by rw [mk 0 j (by omega), nk 0 j (by omega)]
    have sY : ∀ a j : Nat, ¬ (a = 0 ∧ (j = 1 ∨ (3 ≤ j ∧ j ≤ 10) ∨ j = 15 ∨ j = 19)) → a ≠ 2 → a ≠ 4 → a ≠ 7 → a ≠ 8 → ¬ (a = 3 ∧ 150 ≤ j) → ¬ (a = 5 ∧ 6 ≤ j) → S' a j = S a j := fun a j a1 a2 a3 a4 a5 a6 a7 => by rw [sk a j (by omega) (by omega), ys a j a1 a3 a4 a5 a6 a7]
    rw [← hS'] at eM2
    rw [← hN'] at eC
    rw [eM2, eC]
    refine ⟨rfl, ⟨⟨?_, fun k hk => ?_⟩, ⟨⟨?_, ?_⟩, fun k hk => ?_⟩, ?_, ?_⟩, ?_⟩
    · show S' 0 1 = N' 0 2
      rw [sk 0 1 (by omega) (by omega), y01, mk 0 2 (by omega), hN, za_ne (by omega), za_ne (by omega), za_same]
    · have hk : (k : Int) < N' 0 2 := hk
      rw [mk 0 2 (by omega), hN, za_ne (by omega), za_ne (by omega), za_same] at hk
      omega
    · show S' 0 3 = N' 0 0
      rw [sk 0 3 (by omega) (by omega), y3, mk 0 0 (by omega), hN, za_ne (by omega), za_same]
      exact x2.2.1.symm
    · show S' 0 4 = N' 0 1
      rw [sk 0 4 (by omega) (by omega), y4, mk 0 1 (by omega), hN, za_same]
      exact x2.2.2.symm
    · show S' 2 k = N' 1 k
      by_cases c : k = 1
      · have e1 := f3 1 (by decide)
        rw [c, s21, m11, ys 2 1 (by omega) (by omega) (by omega) (by omega) (by omega) (by omega), nr 1 (by decide), e1]
      · rw [sk 2 k (by omega) (by omega), ys 2 k (by omega) (by omega) (by omega) (by omega) (by omega) (by omega), mk 1 k (by omega), nr 1 (by decide)]
        exact f3 k hk
    · exact zBs_to bs cn.2 s10 (sY 0 13 (by omega) (by omega) (by omega) (by omega) (by omega) (by omega) (by omega)) (fun j hj => sY 3 j (by omega) (by omega) (by omega) (by omega) (by omega) (by omega) (by omega)) (fun j hj => sY 5 j (by omega) (by omega) (by omega) (by omega) (by omega) (by omega) (by omega)) (m0 3 (by omega)) (m0 4 (by omega)) (mr 3 (by decide) (by decide)) rfl
    · exact zBp_to bp (sY 0 35 (by omega) (by omega) (by omega) (by omega) (by omega) (by omega) (by omega)) (funext fun j => sY 20 j (by omega) (by omega) (by omega) (by omega) (by omega) (by omega) (by omega)) (m0 3 (by omega)) (m0 5 (by omega)) (m0 6 (by omega)) (mr 40 (by decide) (by decide)) (mr 41 (by decide) (by decide)) rfl rfl
    · exact zBx_to bx (m0 3 (by omega)) (m0 4 (by omega)) (m0 5 (by omega)) (m0 6 (by omega)) (mr 41 (by decide) (by decide)) rfl rfl
  · -- a text
    have nz : ¬ C.1 = 0 := by omega
    rw [if_neg nz] at eC
    obtain ⟨k1, k2⟩ := kc nz
    have x08 := x2.2.1
    obtain ⟨x09, _⟩ := kp x08
    have y08 : Y 0 8 = 0 := by rw [yk 0 8 (by omega), x08]
    rw [if_pos y08] at eM
    obtain ⟨d1, d2, d3⟩ := x3
    have y15 : Y 0 15 = C.2 0 4 := by rw [yk 0 15 (by omega), d1]
    obtain ⟨k, hk⟩ : ∃ k : Nat, (k : Int) = C.2 0 4 := ⟨(C.2 0 4).toNat, by omega⟩
    obtain ⟨A, hA⟩ : ∃ A, A = za Y 0 13 (Y 0 15) := ⟨_, rfl⟩
    have ak : ∀ a j : Nat, ¬ (a = 0 ∧ j = 13) → A a j = Y a j := fun a j h1 => by rw [hA, za_ne h1]
    have a13 : A 0 13 = k := by rw [hA, za_same, y15]; omega
    have cl := zcv_L A k (by omega)
    obtain ⟨B, hB⟩ : ∃ B, B = zfor zm_curves_L114 0 A k := ⟨_, rfl⟩
    rw [← hB] at cl
    have e4 : zcv4 Y = za B 0 35 0 := by
      unfold zcv4
      rw [← hA, a13, show ((k : Int) - 1 + 1 - 0).toNat = k by omega, ← hB]
    rw [e4] at eM
    have b13 : B 0 13 = k := by rw [cl, if_neg (by omega), if_neg (by omega), a13]
    obtain ⟨S', hS'⟩ : ∃ S', S' = za B 0 35 0 := ⟨_, rfl⟩
    rw [← hS'] at eM
    have sk : ∀ a j : Nat, ¬ (a = 0 ∧ (j = 13 ∨ j = 35)) → a ≠ 3 → a ≠ 5 → S' a j = Y a j := fun a j h1 h2 h3 => by
      rw [hS', za_ne (by omega), cl, if_neg (by omega), if_neg (by omega), ak a j (by omega)]
    have s13 : S' 0 13 = k := by rw [hS', za_ne (by omega), b13]
    have s35 : S' 0 35 = 0 := by rw [hS', za_same]
    have s3 : ∀ j : Nat, j < 25 * k → S' 3 j = X 3 (150 + j) := fun j hj => by
      rw [hS', za_ne (by omega), cl, if_pos (by omega), ak 3 _ (by omega), yk 3 _ (by omega)]
    have s5 : ∀ j : Nat, j < k → S' 5 j = X 5 (6 + j) := fun j hj => by
      rw [hS', za_ne (by omega), cl, if_neg (by omega), if_pos (by omega), ak 5 _ (by omega), yk 5 _ (by omega)]
    have eF : zw_forget (zw_take (zcc M)) = (za (zset (za (za (za (za (za M.1 0 2 0) 0 0 (C.2 0 1)) 0 1 (C.2 0 2)) 0 3 (C.2 0 3)) 0 4 (C.2 0 4)) 3 (C.2 1)) 0 5 0, (fun k => C.2 (7 + k)), M.2.2.1, M.2.2.2.1, C.2) := by
      rw [ecc]
      rfl
    rw [eF] at eC
    obtain ⟨N, hN⟩ : ∃ N, N = za (zset (za (za (za (za (za M.1 0 2 0) 0 0 (C.2 0 1)) 0 1 (C.2 0 2)) 0 3 (C.2 0 3)) 0 4 (C.2 0 4)) 3 (C.2 1)) 0 5 0 := ⟨_, rfl⟩
    rw [← hN] at eC
    dsimp only at eC
    have n5 : N 0 5 = 0 := by rw [hN, za_same]
    have n4 : N 0 4 = C.2 0 4 := by rw [hN, za_ne (by omega), zset_ne _ _ (by decide), za_same]
    have n3 : N 0 3 = C.2 0 3 := by rw [hN, za_ne (by omega), zset_ne _ _ (by decide), za_ne (by omega), za_same]
    have n1' : N 0 1 = C.2 0 2 := by rw [hN, za_ne (by omega), zset_ne _ _ (by decide), za_ne (by omega), za_ne (by omega), za_same]
    have n0' : N 0 0 = C.2 0 1 := by rw [hN, za_ne (by omega), zset_ne _ _ (by decide), za_ne (by omega), za_ne (by omega), za_ne (by omega), za_same]
    have n2 : N 0 2 = 0 := by rw [hN, za_ne (by omega), zset_ne _ _ (by decide), za_ne (by omega), za_ne (by omega), za_ne (by omega), za_ne (by omega), za_same]
    have nr3 : N 3 = C.2 1 := by rw [hN, za_row (by decide), zset_self]
    have nr1 : N 1 = M.1 1 := by
      funext j
      rw [hN, za_ne (by omega), zset_ne _ _ (by decide), za_ne (by omega), za_ne (by omega), za_ne (by omega), za_ne (by omega), za_ne (by omega)]
    rw [eM, eC]
    have q3 := x2.2.2.2.2.1
    refine ⟨?_, ⟨⟨?_, fun j hj => ?_⟩, ⟨⟨?_, ?_⟩, fun j hj => ?_⟩, ⟨?_, ?_, fun c hc => ?_⟩, ⟨?_, fun j hj => ?_⟩⟩, ⟨?_, fun c hc => ?_, fun j hj => ?_⟩⟩
    · show N 0 4 = S' 0 13
      rw [n4, s13, hk]
    · show S' 0 1 = N 0 2
      rw [n2, sk 0 1 (by omega) (by omega) (by omega), y01]
    · have hj : (j : Int) < N 0 2 := hj
      rw [n2] at hj
      omega
    · show S' 0 3 = N 0 0
      rw [n0', sk 0 3 (by omega) (by omega) (by omega), y3, x08, k1]
    · show S' 0 4 = N 0 1
      rw [n1', sk 0 4 (by omega) (by omega) (by omega), y4, x09, s49, k2]
    · show S' 2 j = N 1 j
      rw [nr1, sk 2 j (by omega) (by omega) (by omega), ys 2 j (by omega) (by omega) (by omega) (by omega) (by omega) (by omega)]
      exact f3 j hj
    · show S' 0 10 = N 0 3
      rw [n3, q3, sk 0 10 (by omega) (by omega) (by omega), yk 0 10 (by omega)]
      exact x2.2.2.2.2.2
    · show S' 0 13 = N 0 4
      rw [n4, s13, hk]
    · have hc : (c : Int) < N 0 4 := hc
      rw [n4] at hc
      obtain ⟨⟨c1, c2, c3, c4⟩, c5, c6, c7⟩ := d3 c hc
      refine ⟨fun j hj => ?_, fun j hj => ?_, c4⟩
      · show S' 3 (25 * c + j) = C.2 (7 + c) j
        rw [s3 _ (by omega), show 150 + (25 * c + j) = 25 * (6 + c) + j by omega]
        exact c1 j hj
      · show zlt5 (S' 5 c) (5 * j) = N 3 (6 * c + j)
        rw [nr3, s5 c (by omega)]
        exact c5 j hj
    · show S' 0 35 = N 0 5
      rw [s35, n5]
    · have hj : (j : Int) < N 0 5 := hj
      rw [n5] at hj
      omega
    · show zPr (N 0 3)
      rw [n3, q3]
      exact hpr
    · have hc : (c : Int) < N 0 4 := hc
      rw [n4] at hc
      exact (d3 c hc).1.2.2.1
    · have hj : (j : Int) < N 0 5 := hj
      rw [n5] at hj
      omega
end ZJp
