section ZHi
theorem zc_times_st {N M : zCt} (hN : zVE N M) (hp : 2 ≤ M.1 0 3 ∧ M.1 0 3 ≤ 31) {a b pt : Int} (hpt : zpt pt (M.1 0 3)) {P : Nat → Int} (h24 : N.1 24 = P) : (zval P (zpx pt (M.1 0 3)) (zpy pt (M.1 0 3)) (zpz pt (M.1 0 3)) (M.1 0 3) = 0 ∧ ∃ N', zc_timesAt N a b pt = (-2, N') ∧ zVE N' M ∧ N'.1 24 = P) ∨ (zval P (zpx pt (M.1 0 3)) (zpy pt (M.1 0 3)) (zpz pt (M.1 0 3)) (M.1 0 3) ≠ 0 ∧ ∃ (N' : zCt) (ki : Nat → Int) (R : zRs), R = zrun (M.1 0 3) 2048 0 (zld (zLk M a pt)) (zld (zLk M b pt)) (fun _ => 0) ki 0 ∧ zc_timesAt N a b pt = (R.1, N') ∧ zVE N' M ∧ N'.1 24 = P ∧ N'.1 0 15 = R.2.1 ∧ N'.1 25 = R.2.2.2.2.1 ∧ N'.1 26 = R.2.2.2.2.2) := by
  have hq : zpt pt (N.1 0 3) := by rw [hN.p]; exact hpt
  obtain ⟨⟨g1, g2, g3⟩, _⟩ := zgo_rng (M := N) (n := pt) (p := N.1 0 3) (by rw [hN.p]; exact hp) (by rw [bI_t hq]; decide)
  obtain ⟨G, hG⟩ : ∃ G, G = zw_go N pt (N.1 0 3) := ⟨_, rfl⟩
  rw [← hG] at g1 g2 g3
  have vG : zVE G M := by rw [hG]; exact zv_go.tr hN
  have G24 : G.1 24 = P := by
    rw [← h24, hG]
    unfold zw_go
    dsimp only
    rw [za_row (by decide), za_row (by decide), za_row (by decide)]
  have e2 : G.2.1 = M.2.1 := by rw [vG.1]
  rw [hN.p] at g1 g2 g3
  have ec : zc_timesAt N a b pt = (if zval P (zpx pt (M.1 0 3)) (zpy pt (M.1 0 3)) (zpz pt (M.1 0 3)) (M.1 0 3) = 0 then (-2, G) else ((zrunA ((zw_look2 (zw_look1 G (G.2.1 a.toNat) (G.1 0 3)) ((zw_look1 G (G.2.1 a.toNat) (G.1 0 3)).2.1 b.toNat) ((zw_look1 G (G.2.1 a.toNat) (G.1 0 3)).1 0 3)).1 0 3) ((zw_look2 (zw_look1 G (G.2.1 a.toNat) (G.1 0 3)) ((zw_look1 G (G.2.1 a.toNat) (G.1 0 3)).2.1 b.toNat) ((zw_look1 G (G.2.1 a.toNat) (G.1 0 3)).1 0 3)).1 20) ((zw_look2 (zw_look1 G (G.2.1 a.toNat) (G.1 0 3)) ((zw_look1 G (G.2.1 a.toNat) (G.1 0 3)).2.1 b.toNat) ((zw_look1 G (G.2.1 a.toNat) (G.1 0 3)).1 0 3)).1 22) ((zw_look2 (zw_look1 G (G.2.1 a.toNat) (G.1 0 3)) ((zw_look1 G (G.2.1 a.toNat) (G.1 0 3)).2.1 b.toNat) ((zw_look1 G (G.2.1 a.toNat) (G.1 0 3)).1 0 3)).1 26)).1, zw_run (zw_look2 (zw_look1 G (G.2.1 a.toNat) (G.1 0 3)) ((zw_look1 G (G.2.1 a.toNat) (G.1 0 3)).2.1 b.toNat) ((zw_look1 G (G.2.1 a.toNat) (G.1 0 3)).1 0 3)) ((zw_look2 (zw_look1 G (G.2.1 a.toNat) (G.1 0 3)) ((zw_look1 G (G.2.1 a.toNat) (G.1 0 3)).2.1 b.toNat) ((zw_look1 G (G.2.1 a.toNat) (G.1 0 3)).1 0 3)).1 20) ((zw_look2 (zw_look1 G (G.2.1 a.toNat) (G.1 0 3)) ((zw_look1 G (G.2.1 a.toNat) (G.1 0 3)).2.1 b.toNat) ((zw_look1 G (G.2.1 a.toNat) (G.1 0 3)).1 0 3)).1 22) ((zw_look2 (zw_look1 G (G.2.1 a.toNat) (G.1 0 3)) ((zw_look1 G (G.2.1 a.toNat) (G.1 0 3)).2.1 b.toNat) ((zw_look1 G (G.2.1 a.toNat) (G.1 0 3)).1 0 3)).1 0 3))) := by
    unfold zc_timesAt
    rw [bI_t hq]
    simp only [zlet_v]
    rw [← hG, if_neg (by decide), G24, g1, g2, g3, vG.p]
  obtain ⟨A, hA⟩ : ∃ A, A = zw_look1 G (G.2.1 a.toNat) (G.1 0 3) := ⟨_, rfl⟩
  rw [← hA] at ec
  have vA : zVE A M := by rw [hA]; exact zv_look1.tr vG
  obtain ⟨B, hB⟩ : ∃ B, B = zw_look2 A (A.2.1 b.toNat) (A.1 0 3) := ⟨_, rfl⟩
  rw [← hB] at ec
  have vB : zVE B M := by rw [hB]; exact zv_look2.tr vA
  have a1 : ∀ k i : Nat, k ≠ 20 → ¬ (k = 0 ∧ i = 13) → A.1 k i = G.1 k i := fun k i h1 h2 => by rw [hA]; exact zw_look1_o h1 h2
  have b1 : ∀ k i : Nat, k ≠ 22 → ¬ (k = 0 ∧ i = 14) → B.1 k i = A.1 k i := fun k i h1 h2 => by
    rw [hB]
    unfold zw_look2
    dsimp only
    rw [zset_ne _ _ h1, za_ne h2]
  have A20 : A.1 20 = zLk M a pt := by
    rw [hA]
    unfold zw_look1
    dsimp only
    rw [zset_self, g1, g2, g3, e2, vG.p]
    rfl
  have B20 : B.1 20 = zLk M a pt := by
    rw [← A20]
    exact funext fun i => b1 20 i (by omega) (by omega)
  have B22 : B.1 22 = zLk M b pt := by
    rw [hB]
    unfold zw_look2
    dsimp only
    rw [zset_self, a1 0 10 (by decide) (by decide), a1 0 11 (by decide) (by decide), a1 0 12 (by decide) (by decide), g1, g2, g3, vA.1, vA.p]
    rfl
  have B24 : B.1 24 = P := by
    rw [← G24]
    exact funext fun i => (b1 24 i (by omega) (by omega)).trans (a1 24 i (by omega) (by omega))
  rw [vB.p, B20, B22] at ec
  by_cases hv : zval P (zpx pt (M.1 0 3)) (zpy pt (M.1 0 3)) (zpz pt (M.1 0 3)) (M.1 0 3) = 0
  · rw [if_pos hv] at ec
    exact Or.inl ⟨hv, G, ec, vG, G24⟩
  · rw [if_neg hv] at ec
    obtain ⟨R, hR⟩ : ∃ R, R = zrun (M.1 0 3) 2048 0 (zld (zLk M a pt)) (zld (zLk M b pt)) (fun _ => 0) (B.1 26) 0 := ⟨_, rfl⟩
    have hRA : zrunA (M.1 0 3) (zLk M a pt) (zLk M b pt) (B.1 26) = R := by rw [hR]; rfl
    refine Or.inr ⟨hv, _, B.1 26, R, hR, ec.trans (by rw [hRA]), zv_run.tr vB, ?_, ?_, ?_, ?_⟩
    · unfold zw_run
      dsimp only
      rw [zset_ne _ _ (by decide), zset_ne _ _ (by decide), za_row (by decide), za_row (by decide), B24]
    · unfold zw_run
      dsimp only
      rw [zset_ne _ _ (by decide), zset_ne _ _ (by decide), za_ne (by decide), za_same, hRA]
    · unfold zw_run
      dsimp only
      rw [zset_ne _ _ (by decide), zset_self, hRA]
    · unfold zw_run
      dsimp only
      rw [zset_self, hRA]
/-- the model, as far as the RULES -/
theorem zm_times_st {M : zCt} {S : zS2} (hB : zBs M S) (hX : zBx M) (hC : zCI M) {a b pt : Int} (ha : 0 ≤ a ∧ a < M.1 0 4) (hb : 0 ≤ b ∧ b < M.1 0 4) (hpt : zpt pt (M.1 0 3)) {U : zS2} (hU : zFm S U) : ∃ V, zm_laysCommon U a b = V ∧ zFm S V ∧ (∀ x i : Nat, x ≠ 3 → x ≠ 13 → x ≠ 14 → x ≠ 15 → V x i = U x i) ∧ zm_valueOf V 143 (zm_degreeOf V 143) pt = zval (zcmP (M.2.1 a.toNat) (M.2.1 b.toNat) (M.1 0 3)) (zpx pt (M.1 0 3)) (zpy pt (M.1 0 3)) (zpz pt (M.1 0 3)) (M.1 0 3) ∧ ∃ T, zm_laysLong_g (zm_laysLong_f V a pt) b pt = T ∧ zFm S T ∧ zRG (zld (zLk M a pt)) T 16 ∧ zRG (zld (zLk M b pt)) T 17 ∧ ∀ x i : Nat, x ≠ 3 → x ≠ 16 → x ≠ 17 → T x i = V x i := by
  have cn := hC.cn
  have hBU := zBs_q hB cn.2 zVE.rf hU
  obtain ⟨V, c1, c2, c3, c4, c5⟩ := zB_common hBU hX hC ha hb
  have cF := zB_commonF hBU hX hC ha hb
  rw [c1] at cF
  have hBV := zBs_q hBU cn.2 zVE.rf c2
  have vl : zm_valueOf V 143 (zm_degreeOf V 143) pt = zval (zcmP (M.2.1 a.toNat) (M.2.1 b.toNat) (M.1 0 3)) (zpx pt (M.1 0 3)) (zpy pt (M.1 0 3)) (zpz pt (M.1 0 3)) (M.1 0 3) := by
    rw [c5]
    refine zB_valG hBV.1 hX.1 (fun i j hij => ?_) ?_ hpt.1
    · have e3 := zM_cell (U := V) (g := 143) (i := i) (j := j)
      rw [zG_at V 143 i j] at e3
      exact e3.trans (c3 i j hij)
    · obtain ⟨K, iK, φ, h⟩ := zKp_ex hX.1
      have hp := zPr_2 hX.1
      have cx : zcan (M.1 0 3) (M.2.1 a.toNat) := hC.cv a.toNat (by omega)
      have cy : zcan (M.1 0 3) (M.2.1 b.toNat) := hC.cv b.toNat (by omega)
      have tx : 0 < ztop (M.2.1 a.toNat) := (hB.2.2 a.toNat (by omega)).2.2
      have ty : 0 < ztop (M.2.1 b.toNat) := (hB.2.2 b.toNat (by omega)).2.2
      obtain ⟨u, w, hh, hU⟩ := kUW_ex h cx cy (by omega) (by omega)
      obtain ⟨_, L, X, ⟨x1, x2, x3, _⟩, _⟩ := kpartC h hp.1 cx cy (by omega) (by omega) hU
      refine Classical.byContradiction fun z => x2 ?_
      have q := zT_all (zcmP (M.2.1 a.toNat) (M.2.1 b.toNat) (M.1 0 3))
      by_cases y : X + (L - X) ≤ 4
      · rw [zq_t y, Classical.byContradiction (p := zcmP (M.2.1 a.toNat) (M.2.1 b.toNat) (M.1 0 3) (5 * X + (L - X)) = 0) (fun y2 => by have := q.1 X (L - X) y y2; omega), h.z]
      · exact zq_f y
  obtain ⟨f1, f2, f3⟩ := zm_long_f hBV hX cn.2 ha hpt
  have hBf := zBs_q hBV cn.2 zVE.rf f1
  obtain ⟨g1, g2, g3⟩ := zm_long_g hBf hX cn.2 hb hpt
  exact ⟨V, c1, hU.tr c2, cF, vl, _, rfl, (hU.tr c2).tr (f1.tr g1), fun q hq => (g3 16 q (by decide) (by decide)).trans (f2 q hq), g2, fun x i h1 h2 h3 => (g3 x i h1 h3).trans (f3 x i h1 h2)⟩
/-- TIMES at a POINT, both -/
theorem zB_timesAt {M : zCt} {S : zS2} (hB : zBs M S) (hX : zBx M) (hC : zCI M) {a b pt : Int} (ha : 0 ≤ a ∧ a < M.1 0 4) (hb : 0 ≤ b ∧ b < M.1 0 4) (hpt : zpt pt (M.1 0 3)) {N : zCt} (hN : zVE N M) (h24 : N.1 24 = zcmP (M.2.1 a.toNat) (M.2.1 b.toNat) (M.1 0 3)) {U : zS2} (hU : zFm S U) : ∃ t N' U', zc_timesAt N a b pt = (t, N') ∧ zm_timesAt U a b pt = (t, U') ∧ zVE N' M ∧ N'.1 24 = zcmP (M.2.1 a.toNat) (M.2.1 b.toNat) (M.1 0 3) ∧ zFm S U' ∧ (t = -2 ∨ 0 ≤ t ∧ (∀ k : Nat, k < 4 → N'.1 25 k = U' 18 k) ∧ N'.1 0 15 = U' 0 33 ∧ (∀ k : Nat, (k : Int) < N'.1 0 15 → N'.1 26 k = U' 19 k) ∧ 1 ≤ N'.1 0 15 ∧ N'.1 0 15 ≤ 2048) := by
  have hpr := hX.1
  have hp := zPr_2 hpr
  obtain ⟨K, iK, φ, h⟩ := zKp_ex hX.1
  obtain ⟨U3, hU3⟩ : ∃ U3, U3 = zfor zm_timesAt_L3 0 U 4 := ⟨_, rfl⟩
  have u3 : ∀ x i : Nat, U3 x i = if x = 18 ∧ 0 ≤ i ∧ i < 0 + 4 then 0 else U x i := by
    rw [hU3]
    exact zfor_fill (S := U) (step := zm_timesAt_L3) (r := 18) (base := 0) (g := fun _ => 0) 4 (fun k x hk hx => by
      unfold zm_timesAt_L3
      dsimp only
      rw [zlet_v, show (0 + (k : Int)).toNat = 0 + k by omega])
  obtain ⟨U4, hU4⟩ : ∃ U4, U4 = za U3 0 33 0 := ⟨_, rfl⟩
  have f4 : zFm S U4 := fun x i h1 h2 h3 => by
    rw [hU4, za_ne (by omega), u3, if_neg (by omega)]
    exact hU x i h1 h2 h3
  obtain ⟨V, v1, v2, v3, v4, T, t1, t2, t3, t4, t5⟩ := zm_times_st hB hX hC ha hb hpt f4
  have em : zm_timesAt U a b pt = (if zval (zcmP (M.2.1 a.toNat) (M.2.1 b.toNat) (M.1 0 3)) (zpx pt (M.1 0 3)) (zpy pt (M.1 0 3)) (zpz pt (M.1 0 3)) (M.1 0 3) = 0 then (-2, V) else ((zm_timesAt_W78 3999 0 T).1, zm_goesBy (zm_timesAt_W78 3999 0 T).2 0)) := by
    unfold zm_timesAt
    rw [show (3 + 1 - 0 : Int).toNat = 4 by decide]
    simp only [zlet_v]
    rw [← hU3, ← hU4, v1, v4, t1]
  rcases zc_times_st hN hC.p (a := a) (b := b) hpt h24 with ⟨c1, N', c2, c3, c4⟩ | ⟨c1, N', ki, R, c2, c3, c4, c5, c6, c7, c8⟩
  · rw [if_pos c1] at em
    exact ⟨-2, N', V, c2, em, c3, c4, v2, Or.inl rfl⟩
  · rw [if_neg c1] at em
    have cx : zcan (M.1 0 3) (M.2.1 a.toNat) := hC.cv a.toNat (by omega)
    have cy : zcan (M.1 0 3) (M.2.1 b.toNat) := hC.cv b.toNat (by omega)
    have tx : 0 < ztop (M.2.1 a.toNat) := (hB.2.2 a.toNat (by omega)).2.2
    have ty : 0 < ztop (M.2.1 b.toNat) := (hB.2.2 b.toNat (by omega)).2.2
    have en := zr_ends hpr cx cy (by omega) (by omega) pt c1
    have rr : zrR (M.1 0 3) (zld (zLk M a pt)) (zld (zLk M b pt)) (fun _ => 0) ki 0 T := by
      refine ⟨by rw [t2.p]; exact hB.1, t3, t4, fun k hk => ?_, ?_, fun k hk => absurd hk (Nat.not_lt_zero _)⟩
      · rw [t5 18 k (by decide) (by decide) (by decide), v3 18 k (by decide) (by decide) (by decide) (by decide), hU4, za_ne (by omega), u3, if_pos (by omega)]
      · rw [t5 0 33 (by decide) (by decide) (by decide), v3 0 33 (by decide) (by decide) (by decide) (by decide), hU4, za_same]
        rfl
    have run := zrr_run h hpr 2048 2048 3999 0 (zld (zLk M a pt)) (zld (zLk M b pt)) (fun _ => 0) ki 0 T en (Nat.le_refl _) (by decide) (by decide) (zld_can (by omega) (zlook_can (by omega))) (zld_can (by omega) (zlook_can (by omega))) rr
    have e0 : zrun (M.1 0 3) 2048 ((0 : Nat) : Int) (zld (zLk M a pt)) (zld (zLk M b pt)) (fun _ => 0) ki 0 = R := by rw [c2]; rfl
    rw [e0] at run
    obtain ⟨r1, _, d1, d2, d3, d4, d5, d6⟩ := run
    refine ⟨R.1, N', _, c3, em.trans (by rw [r1]), c4, c5, fun x i h1 h2 h3 => (d6 x i (by omega) (by omega)).trans (t2 x i h1 h2 h3), Or.inr ⟨d5, fun k hk => ?_, ?_, fun k hk => ?_, by rw [c6]; exact d4.1, by rw [c6]; exact d4.2⟩⟩
    · rw [c7]; exact (d1 k hk).symm
    · rw [c6]; exact d2.symm
    · rw [c8]; rw [c6] at hk; exact (d3 k hk).symm
/-- the reduction ends, whatever the tools hold -/
theorem zLwq_m (L : Nat) : zLwq zBm L := by
  intro i M S h0 h8 hR hC hI
  have hB := hR.1.2.2.1
  have hX := hR.2
  have cn := hC.cn
  refine ⟨fun S' e10 e13 e3 hI' => ?_, fun j hj => by have := (hB.2.2 j hj).2.2; omega⟩
  obtain ⟨N, n1, n2, n3⟩ : ∃ N : zCt, (∀ k, k ≠ 3 → N.1 k = M.1 k) ∧ N.2 = M.2 ∧ N.1 3 = fun q => zlt5 (S' 5 (q / 6)) (5 * ((q % 6 : Nat) : Int)) := ⟨(zset M.1 3 (fun q => zlt5 (S' 5 (q / 6)) (5 * ((q % 6 : Nat) : Int))), M.2), fun k hk => zset_ne _ _ hk, rfl, by
    dsimp only
    rw [zset_self]⟩
  have r0 := n1 0 (by decide)
  have hC' : zCI N := by
    unfold zCI
    rw [r0, n1 2 (by decide), n1 20 (by decide), n1 21 (by decide), n1 22 (by decide), n1 24 (by decide), n1 27 (by decide), n1 40 (by decide), n1 41 (by decide), n2]
    exact hC
  have hX' : zBx N := hX.same (by rw [r0]) (by rw [r0]) (by rw [r0]) (by rw [r0]) (n1 41 (by decide)) (by rw [n2]) (by rw [n2])
  have hB' : zBs N S' := by
    refine ⟨by rw [r0, e10, hB.1], by rw [r0, e13, hB.2.1], fun c hc => ⟨fun j hj => ?_, fun k hk => ?_, ?_⟩⟩
    · rw [r0] at hc
      rw [e3 _ (by omega), n2]
      exact (hB.2.2 c hc).1 j hj
    · rw [n3]
      show _ = zlt5 (S' 5 ((6 * c + k) / 6)) (5 * (((6 * c + k) % 6 : Nat) : Int))
      rw [show (6 * c + k) / 6 = c by omega, show (6 * c + k) % 6 = k by omega]
    · rw [r0] at hc
      rw [n2]
      exact (hB.2.2 c hc).2.2
  refine ⟨fun c c0 c1 => ?_, fun a b p a0 a1 b0 b1 p0 p1 hv => ?_⟩
  · have hc : 0 ≤ c ∧ c < N.1 0 4 := ⟨c0, by rw [hB'.2.1] at c1; exact c1⟩
    rw [zB_top hB' hc]
    have := (hB'.2.2 c.toNat (by omega)).2.2
    omega
  · rw [hB'.2.1] at a1 b1
    rw [hB'.1] at p1
    obtain ⟨V, v1, v2, v3, v4, T, t1, t2, t3, t4, t5⟩ := zm_times_st hB' hX' hC' ⟨a0, a1⟩ ⟨b0, b1⟩ (pt := p) ⟨p0, p1⟩ zFm.rf
    rw [v1, v4] at hv
    rw [v1, t1]
    have hp := zPr_2 hX'.1
    obtain ⟨K, iK, φ, h⟩ := zKp_ex hX'.1
    have cx : zcan (N.1 0 3) (N.2.1 a.toNat) := hC'.cv a.toNat (by omega)
    have cy : zcan (N.1 0 3) (N.2.1 b.toNat) := hC'.cv b.toNat (by omega)
    have tx : 0 < ztop (N.2.1 a.toNat) := (hB'.2.2 a.toNat (by omega)).2.2
    have ty : 0 < ztop (N.2.1 b.toNat) := (hB'.2.2 b.toNat (by omega)).2.2
    exact zr_E h hX'.1 2048 3999 _ _ T (zr_ends hX'.1 cx cy (by omega) (by omega) p hv) (by decide) (zld_can (by omega) (zlook_can (by omega))) (zld_can (by omega) (zlook_can (by omega))) (by rw [t2.p]; exact hB'.1) t3 t4
end ZHi
