section ZGa
theorem zT_congr {c d : Nat → Int} (h : ∀ i j : Nat, i + j ≤ 4 → c (5 * i + j) = d (5 * i + j)) : ztop c = ztop d := by
  rw [ztop_eq, ztop_eq]
  refine zfor_congr _ (fun i n h1 h2 => ?_)
  have h3 : i < 5 := h2
  obtain ⟨a, rfl⟩ : ∃ a : Nat, i = a := ⟨i.toNat, by omega⟩
  unfold ztop_out
  refine zfor_congr _ (fun j t h4 h5 => ?_)
  have h6 : j < 5 - (a : Int) := by omega
  obtain ⟨b, rfl⟩ : ∃ b : Nat, j = b := ⟨j.toNat, by omega⟩
  unfold ztop_in
  rw [show ((a : Int) * 5 + (b : Int)).toNat = 5 * a + b by omega, h a b (by omega)]
/-- of each two POLYNOMIALS there is the couple -/
theorem kUW_ex {K : Type} [Lean.Grind.CommRing K] {p : Int} {φ : Int → K} (h : zKp K p φ) {a b : Nat → Int} (ha : zcan p a) (hb : zcan p b) (ta : 0 ≤ ztop a) (tb : 0 ≤ ztop b) : ∃ u w hh, kUW (zq φ a) (zq φ b) u w hh := by
  obtain ⟨n, hn⟩ : ∃ n : Nat, (n : Int) = ztop a := ⟨(ztop a).toNat, by omega⟩
  obtain ⟨m, hm⟩ : ∃ m : Nat, (m : Int) = ztop b := ⟨(ztop b).toNat, by omega⟩
  obtain ⟨_, x, y, _, hx⟩ := zT_ed h (fun i j _ => ha _) hn
  obtain ⟨_, x2, y2, _, hx2⟩ := zT_ed h (fun i j _ => hb _) hm
  exact kc_T1 h.F _ _ ⟨5, fun i j hij => zq_flt i j (by omega)⟩ ⟨5, fun i j hij => zq_flt i j (by omega)⟩ ⟨x, y, hx⟩ ⟨x2, y2, hx2⟩
/-- the COMMON PART, both -/
theorem zB_common {M : zCt} {S : zS2} (hB : zBs M S) (hX : zBx M) (hC : zCI M) {a b : Int} (ha : 0 ≤ a ∧ a < M.1 0 4) (hb : 0 ≤ b ∧ b < M.1 0 4) : ∃ U, zm_laysCommon S a b = U ∧ zFm S U ∧ (∀ i j : Nat, i + j ≤ 4 → zG U 143 (5 * i + j) = zcmP (M.2.1 a.toNat) (M.2.1 b.toNat) (M.1 0 3) (5 * i + j)) ∧ (∀ i j : Nat, i < 5 → j < 5 → 4 < i + j → zG U 143 (5 * i + j) = 0) ∧ zm_degreeOf U 143 = ztop (zcmP (M.2.1 a.toNat) (M.2.1 b.toNat) (M.1 0 3)) := by
  obtain ⟨K, iK, φ, h⟩ := zKp_ex hX.1
  have hpr := hX.1
  have hp := zPr_2 hpr
  have hn := hC.cn
  obtain ⟨p, hpd⟩ : ∃ p, p = M.1 0 3 := ⟨_, rfl⟩
  rw [← hpd] at h hpr hp ⊢
  obtain ⟨x, rfl⟩ : ∃ x : Nat, a = x := ⟨a.toNat, by omega⟩
  obtain ⟨y, rfl⟩ : ∃ y : Nat, b = y := ⟨b.toNat, by omega⟩
  rw [Int.toNat_natCast, Int.toNat_natCast]
  have cx : zcan p (M.2.1 x) := by rw [hpd]; exact hC.cv x ha.2
  have cy : zcan p (M.2.1 y) := by rw [hpd]; exact hC.cv y hb.2
  have tx : 0 < ztop (M.2.1 x) := (hB.2.2 x ha.2).2.2
  have ty : 0 < ztop (M.2.1 y) := (hB.2.2 y hb.2).2.2
  have tx4 := zT_le (M.2.1 x)
  have ty4 := zT_le (M.2.1 y)
  obtain ⟨n, hn2⟩ : ∃ n : Nat, (n : Int) = ztop (M.2.1 x) := ⟨(ztop (M.2.1 x)).toNat, by omega⟩
  obtain ⟨m, hm2⟩ : ∃ m : Nat, (m : Int) = ztop (M.2.1 y) := ⟨(ztop (M.2.1 y)).toNat, by omega⟩
  obtain ⟨u, w, hh, hU⟩ := kUW_ex h cx cy (by omega) (by omega)
  obtain ⟨f1, f2⟩ := zT_ed h (fun i j _ => cx _) hn2
  obtain ⟨g1, g2⟩ := zT_ed h (fun i j _ => cy _) hm2
  have gx : zq φ (zG S x) = zq φ (M.2.1 x) := zq_congr (fun k hk => (hB.2.2 x ha.2).1 k hk)
  have gy : zq φ (zG S y) = zq φ (M.2.1 y) := zq_congr (fun k hk => (hB.2.2 y hb.2).1 k hk)
  obtain ⟨U, e1, e2, e3, ⟨ν, ν0, e4⟩, e5⟩ := kpartM h hpr (S := S) (by rw [hB.1, hpd]) (a := x) (b := y) (by omega) (by omega) gx gy (n := n) (m := m) (by rw [zB_top hB ha, hn2, Int.toNat_natCast]) (by rw [zB_top hB hb, hm2, Int.toNat_natCast]) (by omega) (by omega) f1 f2 g1 g2 hU
  obtain ⟨⟨μ, μ0, d4⟩, d5⟩ := kpartC h hp.1 cx cy (by omega) (by omega) hU
  have eqz := kL1_u h.F e4 d4 e5 d5
  have can : zcan p (zcmP (M.2.1 x) (M.2.1 y) p) := zcom_can (by omega)
  have cells : ∀ i j : Nat, i + j ≤ 4 → zG U 143 (5 * i + j) = zcmP (M.2.1 x) (M.2.1 y) p (5 * i + j) := fun i j hij => (zq_ext h can (fun i j hij => (e3 i j (by omega) (by omega)).1) eqz.symm hij).symm
  exact ⟨U, e1, e2, cells, fun i j hi hj hij => (e3 i j hi hj).2 hij, by
    have := zm_degG U 143
    rw [show ((143 : Nat) : Int) = 143 from rfl] at this
    rw [this]
    exact zT_congr cells⟩
theorem zm_areC {S : zS2} {a b : Int} : zm_areCurves S a b = bI ((0 ≤ a ∧ a < S 0 13) ∧ (0 ≤ b ∧ b < S 0 13)) := by
  unfold zm_areCurves
  rw [zB_isCurve, zB_isCurve]
  by_cases q1 : 0 ≤ a ∧ a < S 0 13
  · rw [if_pos q1, zlet_v, if_neg (by decide)]
    by_cases q2 : 0 ≤ b ∧ b < S 0 13
    · rw [if_pos q2, zlet_v, if_neg (by decide), bI_t ⟨q1, q2⟩]
    · rw [if_neg q2, zlet_v, if_pos rfl, bI_f (fun z => q2 z.2)]
  · rw [if_neg q1, zlet_v, if_pos rfl, bI_f (fun z => q1 z.1)]
theorem zfact_17 (L : Nat) : zlK_17 zBm L := by
  intro i M S a1 a2 _ _ hR hC hI _ _
  have hB := hR.1.2.2.1
  have hn := hC.cn
  have hp := zPr_2 hR.2.1
  have ea := zm_areC (S := S) (a := a1) (b := a2)
  rw [hB.2.1] at ea
  by_cases h : (0 ≤ a1 ∧ a1 < M.1 0 4) ∧ (0 ≤ a2 ∧ a2 < M.1 0 4)
  · obtain ⟨U, c1, c2, c3, c4, c5⟩ := zB_common hB hR.2 hC h.1 h.2
    obtain ⟨N, hN⟩ : ∃ N, N = zw_common M (M.2.1 a1.toNat) (M.2.1 a2.toNat) (M.1 0 3) := ⟨_, rfl⟩
    have n24 : N.1 24 = zcmP (M.2.1 a1.toNat) (M.2.1 a2.toNat) (M.1 0 3) := by
      rw [hN]
      unfold zw_common
      dsimp only
      rw [zset_self]
    have ec : zc_common M a1 a2 = (ztop (zcmP (M.2.1 a1.toNat) (M.2.1 a2.toNat) (M.1 0 3)), N) := by
      unfold zc_common
      rw [if_pos (show 0 ≤ a1 ∧ a1 < M.1 0 4 ∧ a1 < 6 by omega), if_pos (show 0 ≤ a2 ∧ a2 < M.1 0 4 ∧ a2 < 6 by omega), ← hN, zlet_v, zlet_v, n24]
    have em : zm_common S a1 a2 = (ztop (zcmP (M.2.1 a1.toNat) (M.2.1 a2.toNat) (M.1 0 3)), U) := by
      unfold zm_common
      rw [ea, bI_t h, zlet_v, if_neg (by decide), c1, zlet_v, zlet_v, c5]
    rw [ec, em]
    exact ⟨rfl, zBm_q hR hC (by rw [hN]; exact zv_common) c2⟩
  · have ec : zc_common M a1 a2 = (-1, M) := by
      unfold zc_common
      by_cases q : 0 ≤ a1 ∧ a1 < M.1 0 4
      · rw [if_pos (show 0 ≤ a1 ∧ a1 < M.1 0 4 ∧ a1 < 6 by omega), if_neg (fun z => h ⟨q, by omega⟩)]
      · rw [if_neg (show ¬ (0 ≤ a1 ∧ a1 < M.1 0 4 ∧ a1 < 6) by omega)]
        split <;> rfl
    have em : zm_common S a1 a2 = (-1, S) := by
      unfold zm_common
      rw [ea, bI_f h, zlet_v, if_pos rfl]
    rw [ec, em]
    exact ⟨rfl, zBm_q hR hC zVE.rf zFm.rf⟩
theorem zfact_18 (L : Nat) : zlK_18 zBm L := by
  intro i M S a1 a2 a3 a4 _ _ hR hC hI _ _ _ _
  have hB := hR.1.2.2.1
  have hn := hC.cn
  have ea := zm_areC (S := S) (a := a1) (b := a2)
  rw [hB.2.1] at ea
  by_cases h : (0 ≤ a1 ∧ a1 < M.1 0 4) ∧ (0 ≤ a2 ∧ a2 < M.1 0 4)
  · by_cases t : zfits a3 a4
    · obtain ⟨U, c1, c2, c3, c4, c5⟩ := zB_common hB hR.2 hC h.1 h.2
      obtain ⟨N, hN⟩ : ∃ N, N = zw_common M (M.2.1 a1.toNat) (M.2.1 a2.toNat) (M.1 0 3) := ⟨_, rfl⟩
      have n24 : N.1 24 = zcmP (M.2.1 a1.toNat) (M.2.1 a2.toNat) (M.1 0 3) := by
        rw [hN]
        unfold zw_common
        dsimp only
        rw [zset_self]
      have tt := t
      unfold zfits at tt
      obtain ⟨x, rfl⟩ : ∃ x : Nat, a3 = x := ⟨a3.toNat, by omega⟩
      obtain ⟨y, rfl⟩ : ∃ y : Nat, a4 = y := ⟨a4.toNat, by omega⟩
      have ec : zc_commonTerm M a1 a2 x y = (zcmP (M.2.1 a1.toNat) (M.2.1 a2.toNat) (M.1 0 3) (5 * x + y), N) := by
        unfold zc_commonTerm
        rw [if_pos (show 0 ≤ a1 ∧ a1 < M.1 0 4 ∧ a1 < 6 by omega), if_pos (show 0 ≤ a2 ∧ a2 < M.1 0 4 ∧ a2 < 6 by omega), ← hN, bI_t t, zlet_v, if_neg (by decide), zlet_v, zlet_v, n24, zatN (by omega)]
      have em : zm_commonTerm S a1 a2 x y = (zcmP (M.2.1 a1.toNat) (M.2.1 a2.toNat) (M.1 0 3) (5 * x + y), U) := by
        unfold zm_commonTerm
        rw [ea, bI_t h, zlet_v, if_neg (by decide), zB_isTerm, bI_t t, zlet_v, if_neg (by decide), c1, zlet_v, zlet_v]
        have e2 : zm_cell U 143 x y = zG U 143 (5 * x + y) := by
          have e3 := zM_cell (U := U) (g := 143) (i := x) (j := y)
          rw [zG_at U 143 x y] at e3
          exact e3
        rw [e2, c3 x y (by omega)]
      rw [ec, em]
      exact ⟨rfl, zBm_q hR hC (by rw [hN]; exact zv_common) c2⟩
    · have ec : zc_commonTerm M a1 a2 a3 a4 = (-1, M) := by
        unfold zc_commonTerm
        rw [if_pos (show 0 ≤ a1 ∧ a1 < M.1 0 4 ∧ a1 < 6 by omega), if_pos (show 0 ≤ a2 ∧ a2 < M.1 0 4 ∧ a2 < 6 by omega), bI_f t, zlet_v, if_pos rfl]
      have em : zm_commonTerm S a1 a2 a3 a4 = (-1, S) := by
        unfold zm_commonTerm
        rw [ea, bI_t h, zlet_v, if_neg (by decide), zB_isTerm, bI_f t, zlet_v, if_pos rfl]
      rw [ec, em]
      exact ⟨rfl, zBm_q hR hC zVE.rf zFm.rf⟩
  · have ec : zc_commonTerm M a1 a2 a3 a4 = (-1, M) := by
      unfold zc_commonTerm
      by_cases q : 0 ≤ a1 ∧ a1 < M.1 0 4
      · rw [if_pos (show 0 ≤ a1 ∧ a1 < M.1 0 4 ∧ a1 < 6 by omega), if_neg (fun z => h ⟨q, by omega⟩)]
      · rw [if_neg (show ¬ (0 ≤ a1 ∧ a1 < M.1 0 4 ∧ a1 < 6) by omega)]
        split <;> rfl
    have em : zm_commonTerm S a1 a2 a3 a4 = (-1, S) := by
      unfold zm_commonTerm
      rw [ea, bI_f h, zlet_v, if_pos rfl]
    rw [ec, em]
    exact ⟨rfl, zBm_q hR hC zVE.rf zFm.rf⟩
end ZGa
