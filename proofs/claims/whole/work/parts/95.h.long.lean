section ZHh
theorem kpartMf {K : Type} [Lean.Grind.CommRing K] {p : Int} {φ : Int → K} (h : zKp K p φ) (hpr : zPr p) {S : zS2} (hS : S 0 10 = p) {a b : Nat} (ha : a < 140) (hb : b < 140) {f g u w hh : Nat → Nat → K} (hf : zq φ (zG S a) = f) (hg : zq φ (zG S b) = g) {n m : Nat} (dn : zm_degreeOf S a = n) (dm : zm_degreeOf S b = m) (n4 : n ≤ 4) (m4 : m ≤ 4) (f1 : ∀ i j, n < i + j → f i j = 0) (f2 : ∃ i j, i + j = n ∧ f i j ≠ 0) (g1 : ∀ i j, m < i + j → g i j = 0) (g2 : ∃ i j, i + j = m ∧ g i j ≠ 0) (hU : kUW f g u w hh) : ∃ U, zm_laysCommon S a b = U ∧ ∀ x i : Nat, x ≠ 3 → x ≠ 13 → x ≠ 14 → x ≠ 15 → U x i = S x i := by
  have hp := zPr_2 hpr
  obtain ⟨e, nu, nw, em, en, ⟨h1, h2⟩, ⟨u1, u2⟩, ⟨w1, w2⟩⟩ := kUW_dg h.F hU f1 f2 g1 g2
  obtain ⟨k0, hk0⟩ : ∃ k0 : Nat, zm_laysCommon_J16 (n : Int) (m : Int) = (k0 : Int) ∧ k0 ≤ n ∧ k0 ≤ m ∧ e ≤ k0 := by
    unfold zm_laysCommon_J16
    by_cases q : m ≤ n
    · exact ⟨m, by rw [if_pos (by omega)], q, Nat.le_refl _, by omega⟩
    · exact ⟨n, by rw [if_neg (by omega)], Nat.le_refl _, by omega, by omega⟩
  obtain ⟨q, S1, l1, l2, l3⟩ := zm_loopK h hpr hS (a := a) (b := b) (by omega) (by omega) hf hg hU n4 m4 em en u1 u2 w1 w2 8 k0 S hk0.2.2.2 hk0.2.1 hk0.2.2.1 (by omega) (fun _ _ _ _ _ => rfl)
  have l1' : zm_laysCommon_W30 a b n m 8 k0 0 S = ((e : Int), q, S1) := l1
  obtain ⟨S2, hS2⟩ : ∃ S2, S2 = zm_empties S1 143 := ⟨_, rfl⟩
  have s2 : ∀ a i : Nat, S2 a i = if a = 3 ∧ 25 * 143 ≤ i ∧ i < 25 * 143 + 25 then 0 else S1 a i := by rw [hS2]; exact zm_empties_sp S1 143
  have eL : zm_laysCommon S a b = if (e : Int) = 0 then zm_sets S2 143 0 0 1 else zm_normal (zm_dividesBy (zfor (zm_laysCommon_L154 n e ((nT (nu + 1) : Nat) : Int)) 0 (zm_empties S2 142) (nw + 1)) a e) 143 := by
    unfold zm_laysCommon
    simp only [zlet_v]
    rw [dn, dm, hk0.1, l1']
    dsimp only
    rw [← hS2, show (m : Int) - (e : Int) = ((nu : Nat) : Int) by omega, zm_many_n, show ((n : Int) - (e : Int) + 1 - 0).toNat = nw + 1 by omega]
  have s210 : S2 0 10 = p := by rw [s2 0 10, if_neg (by omega), l2 0 10 (by decide) (by decide) (by decide), hS]
  rw [eL]
  by_cases e0 : e = 0
  · rw [if_pos (by omega)]
    have eS : zm_sets S2 143 0 0 1 = za S2 3 (25 * 143 + 5 * 0 + 0) (1 % p) := zm_setsE (i := 0) (j := 0) s210 (by omega)
    rw [eS]
    exact ⟨_, rfl, fun x i y1 y2 y3 y4 => by rw [za_ne (by omega), s2, if_neg (by omega)]; exact l2 x i y2 y3 y4⟩
  · rw [if_neg (by omega)]
    obtain ⟨c0, c1, c2, c3⟩ := l3 e0
    obtain ⟨S3, hS3⟩ : ∃ S3, S3 = zm_empties S2 142 := ⟨_, rfl⟩
    have s3 : ∀ a i : Nat, S3 a i = if a = 3 ∧ 25 * 142 ≤ i ∧ i < 25 * 142 + 25 then 0 else S2 a i := by rw [hS3]; exact zm_empties_sp S2 142
    rw [← hS3]
    have s310 : S3 0 10 = p := by rw [s3, if_neg (by omega), s210]
    obtain ⟨t1, t2, t3⟩ := zm_triD (S := S3) (p := p) (g := 142) (D := nw + 1) (v := fun i j => S1 13 (nT (nu + 1) + ncol i j)) (so := zm_laysCommon_L154 n e ((nT (nu + 1) : Nat) : Int)) (si := zm_laysCommon_L166 ((nT (nu + 1) : Nat) : Int)) (by omega) s310 (fun i X hi => by
      unfold zm_laysCommon_L154
      dsimp only
      rw [zlet_v, show ((n : Int) - (e : Int) - (i : Int) + 1 - 0).toNat = nw + 1 - i by omega]) (fun i j X hij hX hX2 hX3 => by
      unfold zm_laysCommon_L166
      dsimp only
      rw [zlet_v, zlet_v, zm_term_n, show (((nT (nu + 1) : Nat) : Int) + (ncol i j : Int)).toNat = nT (nu + 1) + ncol i j by omega, hX2 13 _ (by decide), s3, if_neg (by omega), s2, if_neg (by omega)]
      exact zm_setsE hX (by omega))
    obtain ⟨S4, hS4⟩ : ∃ S4, S4 = zfor (zm_laysCommon_L154 n e ((nT (nu + 1) : Nat) : Int)) 0 S3 (nw + 1) := ⟨_, rfl⟩
    rw [← hS4] at t1 t2 t3 ⊢
    have s410 : S4 0 10 = p := by rw [t1 0 10 (by decide), s310]
    have fr4 : ∀ x i : Nat, x ≠ 13 → x ≠ 14 → x ≠ 15 → ¬ (x = 3 ∧ 3550 ≤ i) → S4 x i = S x i := fun x i y1 y2 y3 y4 => by
      have e1 : S4 x i = S3 x i := by
        by_cases z : x = 3
        · rw [z]; exact t2 i (by omega)
        · exact t1 x i z
      rw [e1, s3, if_neg (by omega), s2, if_neg (by omega)]
      exact l2 x i y1 y2 y3
    have o4 : zq φ (zG S4 142) = fun i j => c0 * w i j := by
      rw [show (fun i j => c0 * w i j) = kUn (fun k => φ (S1 13 k)) (nT (nu + 1)) (nT (nw + 1)) from funext fun i => funext fun j => (c2 i j).symm]
      funext i j
      unfold kUn
      by_cases y : i + j ≤ 4
      · rw [zq_t y, ← zG_at S4 142 i j, t3 i j (by omega) (by omega)]
        by_cases x : i + j < nw + 1
        · rw [if_pos x, if_pos (ncol_lt x), h.em]
        · have := ncol_ge (i := i) (j := j) (d := nw + 1) (by omega)
          rw [if_neg x, if_neg (by omega), s3, if_pos (by omega), h.z]
      · have := ncol_ge (i := i) (j := j) (d := nw + 1) (by omega)
        rw [zq_f y, if_neg (by omega)]
    have f4 : zq φ (zG S4 a) = kc_mul hh w := by
      rw [← hU.2.2.2.2.2.1, ← hf]
      exact zq_congr (fun k hk => fr4 3 _ (by decide) (by decide) (by decide) (by omega))
    obtain ⟨U, v1, v2, v3, v4, ν, v5, v6⟩ := zm_divE h hpr s410 (a := a) (e := e) (by omega) f4 o4 c1 h1 w1 w2 (fun i j hi hj => by
      rw [t2 _ (by omega), s3, if_neg (by omega), s2, if_pos (by omega)])
    rw [v1]
    have u10 : U 0 10 = p := by rw [v2 0 10 (by decide) (by decide) (by decide) (by decide), s410]
    obtain ⟨V, x1, x2, x3, x4, ⟨μ, x5, x6⟩, x7⟩ := zm_nrmE h hpr u10 (g := 143) (e := e) (by omega) v4 (by
      obtain ⟨i, j, y1, y2⟩ := h2
      refine ⟨i, j, y1, ?_⟩
      rw [v6]
      intro z
      rcases h.F.dom _ _ z with y | y
      · exact v5 y
      · exact y2 y)
    exact ⟨V, x1, fun x i y1 y2 y3 y4 => by rw [x2 x i y1, v2 x i y1 y2 y3 y4, fr4 x i y2 y3 y4 (by omega)]⟩
/-- what the COMMON PART leaves as it was, in the model -/
theorem zB_commonF {M : zCt} {S : zS2} (hB : zBs M S) (hX : zBx M) (hC : zCI M) {a b : Int} (ha : 0 ≤ a ∧ a < M.1 0 4) (hb : 0 ≤ b ∧ b < M.1 0 4) : ∀ x i : Nat, x ≠ 3 → x ≠ 13 → x ≠ 14 → x ≠ 15 → (zm_laysCommon S a b) x i = S x i := by
  obtain ⟨K, iK, φ, h⟩ := zKp_ex hX.1
  have hpr := hX.1
  have hp := zPr_2 hpr
  have hn := hC.cn
  obtain ⟨p, hpd⟩ : ∃ p, p = M.1 0 3 := ⟨_, rfl⟩
  rw [← hpd] at h hpr hp
  obtain ⟨x, rfl⟩ : ∃ x : Nat, a = x := ⟨a.toNat, by omega⟩
  obtain ⟨y, rfl⟩ : ∃ y : Nat, b = y := ⟨b.toNat, by omega⟩
  have cx : zcan p (M.2.1 x) := by rw [hpd]; exact hC.cv x ha.2
  have cy : zcan p (M.2.1 y) := by rw [hpd]; exact hC.cv y hb.2
  have tx : 0 < ztop (M.2.1 x) := (hB.2.2 x ha.2).2.2
  have ty : 0 < ztop (M.2.1 y) := (hB.2.2 y hb.2).2.2
  have tx4 := zT_le (M.2.1 x)
  have ty4 := zT_le (M.2.1 y)
  obtain ⟨n, hn2⟩ : ∃ n : Nat, (n : Int) = ztop (M.2.1 x) := ⟨(ztop (M.2.1 x)).toNat, by omega⟩
  obtain ⟨m, hm2⟩ : ∃ m : Nat, (m : Int) = ztop (M.2.1 y) := ⟨(ztop (M.2.1 y)).toNat, by omega⟩
  obtain ⟨u, w, hh, hU⟩ := kUW_ex h cx cy (by omega) (by omega)
  obtain ⟨f1, f2⟩ := zT_ed h (fun i j _ => cx _) hn2
  obtain ⟨g1, g2⟩ := zT_ed h (fun i j _ => cy _) hm2
  have gx : zq φ (zG S x) = zq φ (M.2.1 x) := zq_congr (fun k hk => (hB.2.2 x ha.2).1 k hk)
  have gy : zq φ (zG S y) = zq φ (M.2.1 y) := zq_congr (fun k hk => (hB.2.2 y hb.2).1 k hk)
  obtain ⟨U, e1, e2⟩ := kpartMf h hpr (S := S) (by rw [hB.1, hpd]) (a := x) (b := y) (by omega) (by omega) gx gy (n := n) (m := m) (by rw [zB_top hB ha, hn2, Int.toNat_natCast]) (by rw [zB_top hB hb, hm2, Int.toNat_natCast]) (by omega) (by omega) f1 f2 g1 g2 hU
  rw [e1]
  exact e2
/-- only the grids are touched -/
def zF3 (S U : zS2) : Prop := ∀ k i : Nat, k ≠ 3 → U k i = S k i
theorem zF3_sets {S X : zS2} {g i j v : Int} (h : zF3 S X) : zF3 S (zm_sets X g i j v) := fun a k ha => by
  unfold zm_sets
  rw [zlet_v, zlet_v, za_ne (by omega)]
  exact h a k ha
theorem zF3_for {S X : zS2} {st : Int → zS2 → zS2} {a : Int} (h : zF3 S X) (hs : ∀ i Y, zF3 S Y → zF3 S (st i Y)) (n : Nat) : zF3 S (zfor st a X n) := zfor_inv (zF3 S) h hs n
theorem zF3_adp {S X : zS2} {to by_ a i j : Int} (h : zF3 S X) : zF3 S (zm_addsPowers X to by_ a i j) := by
  unfold zm_addsPowers
  rw [zlet_v]
  refine zF3_for h (fun k Y hY => ?_) _
  unfold zm_addsPowers_L3
  simp only [zlet_v]
  exact zF3_sets hY
theorem zF3_lays (S : zS2) (g cv pt : Int) : zF3 S (zm_laysLocal S g cv pt) := by
  unfold zm_laysLocal
  simp only [zlet_v]
  refine zF3_for ?_ (fun i Y hY => ?_) _
  · unfold zm_empties
    rw [zlet_v]
    refine zF3_for (fun _ _ _ => rfl) (fun i Y hY => ?_) _
    unfold zm_empties_L2
    dsimp only
    rw [zlet_v]
    exact fun a k ha => by rw [za_ne (by omega)]; exact hY a k ha
  · unfold zm_laysLocal_L15
    dsimp only
    rw [zlet_v]
    refine zF3_for hY (fun j Z hZ => ?_) _
    unfold zm_laysLocal_L25
    simp only [zlet_v]
    split
    · exact hZ
    · split
      · split
        · exact zF3_sets hZ
        · exact zF3_adp hZ
      · refine zF3_for hZ (fun k V hV => ?_) _
        unfold zm_laysLocal_L75
        simp only [zlet_v]
        exact zF3_adp hV
/-- LOCAL as a grid of the RULES, in the model -/
theorem zm_long_f {M : zCt} {S : zS2} (hB : zBs M S) (hX : zBx M) (hn6 : M.1 0 4 ≤ 6) {cv pt : Int} (hc : 0 ≤ cv ∧ cv < M.1 0 4) (hpt : zpt pt (M.1 0 3)) : zFm S (zm_laysLong_f S cv pt) ∧ zRG (zld (zLk M cv pt)) (zm_laysLong_f S cv pt) 16 ∧ ∀ k i : Nat, k ≠ 3 → k ≠ 16 → (zm_laysLong_f S cv pt) k i = S k i := by
  obtain ⟨L, hL⟩ : ∃ L, L = zm_laysLocal S 141 cv pt := ⟨_, rfl⟩
  have l3 : zF3 S L := by rw [hL]; exact zF3_lays S 141 cv pt
  have lf : zFm S L := by rw [hL]; exact (zB_lays hB hX hn6 hc hpt (A := 0) (B := 0) (by omega)).1
  have lc : ∀ A B : Nat, A + B ≤ 4 → L 3 (25 * 141 + 5 * A + B) = zLk M cv pt (5 * A + B) := fun A B hAB => by rw [hL]; exact (zB_lays hB hX hn6 hc hpt hAB).2
  obtain ⟨X, hXd⟩ : ∃ X, X = zfor zm_laysLong_f_L12 0 L 289 := ⟨_, rfl⟩
  have x1 : ∀ a i : Nat, X a i = if a = 16 ∧ 0 ≤ i ∧ i < 0 + 289 then 0 else L a i := by
    rw [hXd]
    exact zfor_fill (S := L) (step := zm_laysLong_f_L12) (r := 16) (base := 0) (g := fun _ => 0) 289 (fun k x hk hx => by
      unfold zm_laysLong_f_L12
      dsimp only
      rw [zlet_v, show (0 + (k : Int)).toNat = 0 + k by omega])
  have eT : zm_laysLong_f S cv pt = zfor zm_laysLong_f_L34 0 X 5 := by
    unfold zm_laysLong_f
    rw [← hL, zlet_v, zlet_v, zlet_v, hXd]
    rfl
  have f := zfor_rel (fun (c : Nat → Int) (Y : zS2) => zRG c Y 16 ∧ ∀ k i : Nat, k ≠ 16 → Y k i = L k i) (s := zld_out (zLk M cv pt)) (t := zm_laysLong_f_L34) (a := 0) (x := fun _ => 0) (y := X) ⟨fun q hq => by rw [x1, if_pos (by omega)], fun k i hk => by rw [x1, if_neg (by omega)]⟩ 5 (fun i c Y h1 h2 hI => by
    obtain ⟨i, rfl⟩ : ∃ k : Nat, i = k := ⟨i.toNat, by omega⟩
    unfold zld_out zm_laysLong_f_L34
    dsimp only
    rw [zlet_v]
    refine zfor_rel (fun (c : Nat → Int) (Y : zS2) => zRG c Y 16 ∧ ∀ k i : Nat, k ≠ 16 → Y k i = L k i) (s := zld_in (zLk M cv pt) i) (t := zm_laysLong_f_L43 i) (a := 0) hI _ (fun j c Y h3 h4 hI => ?_)
    obtain ⟨j, rfl⟩ : ∃ k : Nat, j = k := ⟨j.toNat, by omega⟩
    unfold zld_in zm_laysLong_f_L43
    dsimp only
    have e := zM_cell (U := Y) (g := 141) (i := i) (j := j)
    rw [show ((141 : Nat) : Int) = 141 from rfl] at e
    rw [zlet_v, zlet_v, e, hI.2 3 _ (by decide), lc i j (by omega), zatN (show i + j ≤ 4 by omega), show ((i : Int) * 17 + (j : Int)).toNat = 17 * i + j by omega, show (17 * (i : Int) + (j : Int)).toNat = 17 * i + j by omega]
    refine ⟨fun q hq => ?_, fun a k ha => by rw [za_ne (by omega)]; exact hI.2 a k ha⟩
    by_cases e : q = 17 * i + j
    · rw [e, za_same, zup_self]
    · rw [za_ne (by omega), zup_ne _ _ e]
      exact hI.1 q hq)
  rw [eT]
  refine ⟨fun k i h1 h2 h3 => (f.2 k i (by omega)).trans (lf k i h1 h2 h3), f.1, fun k i h1 h2 => (f.2 k i h2).trans (l3 k i h1)⟩
/-- LOCAL as a grid of the RULES, in the model -/
theorem zm_long_g {M : zCt} {S : zS2} (hB : zBs M S) (hX : zBx M) (hn6 : M.1 0 4 ≤ 6) {cv pt : Int} (hc : 0 ≤ cv ∧ cv < M.1 0 4) (hpt : zpt pt (M.1 0 3)) : zFm S (zm_laysLong_g S cv pt) ∧ zRG (zld (zLk M cv pt)) (zm_laysLong_g S cv pt) 17 ∧ ∀ k i : Nat, k ≠ 3 → k ≠ 17 → (zm_laysLong_g S cv pt) k i = S k i := by
  obtain ⟨L, hL⟩ : ∃ L, L = zm_laysLocal S 141 cv pt := ⟨_, rfl⟩
  have l3 : zF3 S L := by rw [hL]; exact zF3_lays S 141 cv pt
  have lf : zFm S L := by rw [hL]; exact (zB_lays hB hX hn6 hc hpt (A := 0) (B := 0) (by omega)).1
  have lc : ∀ A B : Nat, A + B ≤ 4 → L 3 (25 * 141 + 5 * A + B) = zLk M cv pt (5 * A + B) := fun A B hAB => by rw [hL]; exact (zB_lays hB hX hn6 hc hpt hAB).2
  obtain ⟨X, hXd⟩ : ∃ X, X = zfor zm_laysLong_g_L12 0 L 289 := ⟨_, rfl⟩
  have x1 : ∀ a i : Nat, X a i = if a = 17 ∧ 0 ≤ i ∧ i < 0 + 289 then 0 else L a i := by
    rw [hXd]
    exact zfor_fill (S := L) (step := zm_laysLong_g_L12) (r := 17) (base := 0) (g := fun _ => 0) 289 (fun k x hk hx => by
      unfold zm_laysLong_g_L12
      dsimp only
      rw [zlet_v, show (0 + (k : Int)).toNat = 0 + k by omega])
  have eT : zm_laysLong_g S cv pt = zfor zm_laysLong_g_L34 0 X 5 := by
    unfold zm_laysLong_g
    rw [← hL, zlet_v, zlet_v, zlet_v, hXd]
    rfl
  have f := zfor_rel (fun (c : Nat → Int) (Y : zS2) => zRG c Y 17 ∧ ∀ k i : Nat, k ≠ 17 → Y k i = L k i) (s := zld_out (zLk M cv pt)) (t := zm_laysLong_g_L34) (a := 0) (x := fun _ => 0) (y := X) ⟨fun q hq => by rw [x1, if_pos (by omega)], fun k i hk => by rw [x1, if_neg (by omega)]⟩ 5 (fun i c Y h1 h2 hI => by
    obtain ⟨i, rfl⟩ : ∃ k : Nat, i = k := ⟨i.toNat, by omega⟩
    unfold zld_out zm_laysLong_g_L34
    dsimp only
    rw [zlet_v]
    refine zfor_rel (fun (c : Nat → Int) (Y : zS2) => zRG c Y 17 ∧ ∀ k i : Nat, k ≠ 17 → Y k i = L k i) (s := zld_in (zLk M cv pt) i) (t := zm_laysLong_g_L43 i) (a := 0) hI _ (fun j c Y h3 h4 hI => ?_)
    obtain ⟨j, rfl⟩ : ∃ k : Nat, j = k := ⟨j.toNat, by omega⟩
    unfold zld_in zm_laysLong_g_L43
    dsimp only
    have e := zM_cell (U := Y) (g := 141) (i := i) (j := j)
    rw [show ((141 : Nat) : Int) = 141 from rfl] at e
    rw [zlet_v, zlet_v, e, hI.2 3 _ (by decide), lc i j (by omega), zatN (show i + j ≤ 4 by omega), show ((i : Int) * 17 + (j : Int)).toNat = 17 * i + j by omega, show (17 * (i : Int) + (j : Int)).toNat = 17 * i + j by omega]
    refine ⟨fun q hq => ?_, fun a k ha => by rw [za_ne (by omega)]; exact hI.2 a k ha⟩
    by_cases e : q = 17 * i + j
    · rw [e, za_same, zup_self]
    · rw [za_ne (by omega), zup_ne _ _ e]
      exact hI.1 q hq)
  rw [eT]
  refine ⟨fun k i h1 h2 h3 => (f.2 k i (by omega)).trans (lf k i h1 h2 h3), f.1, fun k i h1 h2 => (f.2 k i h2).trans (l3 k i h1)⟩
end ZHh
