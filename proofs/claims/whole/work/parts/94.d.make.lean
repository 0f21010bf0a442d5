section ZGd
theorem zmk_0 {i : Int} {M : zCt} {S : zS2} {a b t : Int} (hR : zBm i M S) (hC : zCI M) : zMkB M S (zc_build M a b 0 t) (zm_makes S a b 0 t) := by
  have hB := hR.1.2.2.1
  have hn := hC.cn
  have ea := zm_areC (S := S) (a := a) (b := b)
  rw [hB.2.1] at ea
  have ec : zc_build M a b 0 t = zc_buildProduct M a b := by
    unfold zc_build
    rw [if_pos rfl, zlet_v]
  have em : zm_makes S a b 0 t = (if zm_areCurves S a b = 0 then (0, S) else if (zm_multiplies S 144 a b).1 = 0 then (0, (zm_multiplies S 144 a b).2) else (1, (zm_multiplies S 144 a b).2)) := by
    unfold zm_makes
    rw [if_pos rfl, zlet_v, zlet_v]
  rw [ec, em, ea]
  by_cases hab : (0 ≤ a ∧ a < M.1 0 4) ∧ (0 ≤ b ∧ b < M.1 0 4)
  · rw [bI_t hab, if_neg (show ¬ (1 : Int) = 0 by decide)]
    obtain ⟨ha, hb⟩ := hab
    obtain ⟨K, iK, φ, h⟩ := zKp_ex hR.2.1
    have hp := zPr_2 hR.2.1
    obtain ⟨p, hpd⟩ : ∃ p, p = M.1 0 3 := ⟨_, rfl⟩
    rw [← hpd] at h hp
    have s10 : S 0 10 = p := by rw [hB.1, hpd]
    obtain ⟨x, rfl⟩ : ∃ x : Nat, a = x := ⟨a.toNat, by omega⟩
    obtain ⟨y, rfl⟩ : ∃ y : Nat, b = y := ⟨b.toNat, by omega⟩
    have cx : zcan p (M.2.1 x) := by rw [hpd]; exact hC.cv x ha.2
    have cy : zcan p (M.2.1 y) := by rw [hpd]; exact hC.cv y hb.2
    have tx : 0 < ztop (M.2.1 x) := (hB.2.2 x ha.2).2.2
    have ty : 0 < ztop (M.2.1 y) := (hB.2.2 y hb.2).2.2
    obtain ⟨n, hn2⟩ : ∃ n : Nat, (n : Int) = ztop (M.2.1 x) := ⟨(ztop (M.2.1 x)).toNat, by omega⟩
    obtain ⟨m, hm2⟩ : ∃ m : Nat, (m : Int) = ztop (M.2.1 y) := ⟨(ztop (M.2.1 y)).toNat, by omega⟩
    obtain ⟨f1, f2⟩ := zT_ed h (fun i j _ => cx _) hn2
    obtain ⟨g1, g2⟩ := zT_ed h (fun i j _ => cy _) hm2
    have gx : zq φ (zG S x) = zq φ (M.2.1 x) := zq_congr (fun k hk => (hB.2.2 x ha.2).1 k hk)
    have gy : zq φ (zG S y) = zq φ (M.2.1 y) := zq_congr (fun k hk => (hB.2.2 y hb.2).1 k hk)
    have ex := kc_exact h.F f1 g1 f2 g2
    obtain ⟨N, hN⟩ : ∃ N, N = zw_mset M (zprod (M.2.1 x) (M.2.1 y) p) := ⟨_, rfl⟩
    have n27 : N.1 27 = zprod (M.2.1 x) (M.2.1 y) p := by
      rw [hN]
      unfold zw_mset
      dsimp only
      rw [zset_self]
    have eb : zc_buildProduct M x y = if ztop (M.2.1 x) + ztop (M.2.1 y) ≤ 4 then (1, N) else (0, M) := by
      unfold zc_buildProduct
      rw [if_pos (show 0 ≤ (x : Int) ∧ (x : Int) < M.1 0 4 ∧ (x : Int) < 6 by omega), if_pos (show 0 ≤ (y : Int) ∧ (y : Int) < M.1 0 4 ∧ (y : Int) < 6 by omega), zlet_v, zlet_v, Int.toNat_natCast, Int.toNat_natCast, ← hpd, ← hN, zlet_v]
    rw [eb]
    have mg := zm_mulG h (S := S) 144 x y s10 (by omega)
    rw [gx, gy] at mg
    rcases mg with ⟨T, t1, t2, A, B, t3, t4⟩ | ⟨U, u1, u2, u3, u4, u5, u6⟩
    · have t1' : zm_multiplies S 144 x y = (0, T) := t1
      rw [t1', if_pos rfl, if_neg (show ¬ ztop (M.2.1 x) + ztop (M.2.1 y) ≤ 4 from fun z => t4 (kc_zero f1 g1 A B (by omega)))]
      exact ⟨zVE.rf, fun k i h1 h2 h3 => t2 k i (by omega), hC, Or.inl ⟨rfl, Or.inl rfl⟩⟩
    · have u1' : zm_multiplies S 144 x y = (1, U) := u1
      have d4 : n + m ≤ 4 := Classical.byContradiction fun z => by
        obtain ⟨A, B, e, q⟩ := ex
        exact q (u3 A B (by omega))
      rw [u1', if_neg (show ¬ ((1 : Int), U).1 = 0 from by show ¬ (1 : Int) = 0; decide), if_pos (show ztop (M.2.1 x) + ztop (M.2.1 y) ≤ 4 by omega)]
      have eq := zq_prod h (M.2.1 x) (M.2.1 y) u3
      have can : zcan p (zprod (M.2.1 x) (M.2.1 y) p) := zprod_can (by omega)
      have cells : ∀ i j : Nat, i + j ≤ 4 → zG U 144 (5 * i + j) = zprod (M.2.1 x) (M.2.1 y) p (5 * i + j) := fun i j hij => (zq_ext h can u4 (eq.trans u5.symm) hij).symm
      have tt : ztop (zprod (M.2.1 x) (M.2.1 y) p) = ((n + m : Nat) : Int) := zT_eq h (fun i j _ => can _) (by rw [eq]; exact kc_zero f1 g1) (by rw [eq]; exact ex)
      refine ⟨by rw [hN]; exact zv_mset, fun k i h1 h2 h3 => u2 k i (by omega) (by omega), by rw [hN]; exact zi_mset hC (zcan_le can hp.2), Or.inr ⟨by show ¬ (1 : Int) = 0; decide, by show ¬ (1 : Int) = 0; decide, ?_, ?_, fun q hq => ?_⟩⟩
      · show 1 ≤ ztop (N.1 27)
        rw [n27, tt]; omega
      · show zflt (N.1 27)
        rw [n27]; exact zprod_fl _ _ _
      · show zG U 144 q = N.1 27 q
        rw [n27]
        exact zg25 cells u6 (zprod_fl _ _ _) q hq
  · rw [bI_f hab, if_pos rfl]
    have eb : zc_buildProduct M a b = (0, M) := by
      unfold zc_buildProduct
      by_cases q : 0 ≤ a ∧ a < M.1 0 4
      · rw [if_pos (show 0 ≤ a ∧ a < M.1 0 4 ∧ a < 6 by omega), if_neg (fun z => hab ⟨q, by omega⟩)]
      · rw [if_neg (show ¬ (0 ≤ a ∧ a < M.1 0 4 ∧ a < 6) by omega)]
        split <;> rfl
    rw [eb]
    exact zMkB_no hC
theorem zmk_1 {i : Int} {M : zCt} {S : zS2} {a b t : Int} (hR : zBm i M S) (hC : zCI M) : zMkB M S (zc_build M a b 1 t) (zm_makes S a b 1 t) := by
  have hB := hR.1.2.2.1
  have hn := hC.cn
  have ea := zm_areC (S := S) (a := a) (b := b)
  rw [hB.2.1] at ea
  have ec : zc_build M a b 1 t = zc_buildMix M a b t := by
    unfold zc_build
    rw [if_neg (by decide), if_pos rfl, zlet_v]
  have em : zm_makes S a b 1 t = (if zm_areCurves S a b = 0 then (0, S) else if zm_degreeOf (zm_adds (zm_copies S 144 a) 144 b (zm_modulo (zm_copies S 144 a) t)) 144 ≤ 0 then (0, zm_adds (zm_copies S 144 a) 144 b (zm_modulo (zm_copies S 144 a) t)) else (1, zm_adds (zm_copies S 144 a) 144 b (zm_modulo (zm_copies S 144 a) t))) := by
    unfold zm_makes
    rw [if_neg (by decide), if_pos rfl]
    simp only [zlet_v]
  rw [ec, em, ea]
  by_cases hab : (0 ≤ a ∧ a < M.1 0 4) ∧ (0 ≤ b ∧ b < M.1 0 4)
  · rw [bI_t hab, if_neg (show ¬ (1 : Int) = 0 by decide)]
    obtain ⟨ha, hb⟩ := hab
    obtain ⟨K, iK, φ, h⟩ := zKp_ex hR.2.1
    have hp := zPr_2 hR.2.1
    obtain ⟨p, hpd⟩ : ∃ p, p = M.1 0 3 := ⟨_, rfl⟩
    rw [← hpd] at h hp
    have s10 : S 0 10 = p := by rw [hB.1, hpd]
    obtain ⟨x, rfl⟩ : ∃ x : Nat, a = x := ⟨a.toNat, by omega⟩
    obtain ⟨y, rfl⟩ : ∃ y : Nat, b = y := ⟨b.toNat, by omega⟩
    have cx : zcan p (M.2.1 x) := by rw [hpd]; exact hC.cv x ha.2
    have cy : zcan p (M.2.1 y) := by rw [hpd]; exact hC.cv y hb.2
    have fx : zflt (M.2.1 x) := hR.2.2.1 x ha.2
    have fy : zflt (M.2.1 y) := hR.2.2.1 y hb.2
    obtain ⟨V, hV⟩ : ∃ V, V = zm_copies S 144 x := ⟨_, rfl⟩
    have v0 : ∀ a i : Nat, V a i = if a = 3 ∧ 25 * 144 ≤ i ∧ i < 25 * 144 + 25 then S 3 (25 * x + (i - 25 * 144)) else S a i := by rw [hV]; exact zm_copies_sp S 144 x
    have v10 : V 0 10 = p := by rw [v0, if_neg (by omega), s10]
    have ad := zm_adds_sp (S := V) (p := p) (to := 144) (fr := y) v10 (by omega) (by omega) (t % p)
    obtain ⟨U, hU⟩ : ∃ U, U = zm_adds V 144 y (t % p) := ⟨_, rfl⟩
    have ad' : (∀ k q : Nat, k ≠ 3 → U k q = V k q) ∧ (∀ q : Nat, ¬ (25 * 144 ≤ q ∧ q < 25 * 144 + 25) → U 3 q = V 3 q) ∧ ∀ A B : Nat, A < 5 → B < 5 → U 3 (25 * 144 + 5 * A + B) = (V 3 (25 * 144 + 5 * A + B) + (t % p) * V 3 (25 * y + 5 * A + B)) % p := by rw [hU]; exact ad
    rw [← hV, zB_mod v10 (by omega), ← hU]
    obtain ⟨N, hN⟩ : ∃ N, N = zw_mset (zw_mset M (M.2.1 x)) (zaddS (M.2.1 x) (M.2.1 y) 0 0 (t % p) p) := ⟨_, rfl⟩
    have n27 : N.1 27 = zaddS (M.2.1 x) (M.2.1 y) 0 0 (t % p) p := by
      rw [hN]
      unfold zw_mset
      dsimp only
      rw [zset_self]
    have eb : zc_buildMix M x y t = (1, N) := by
      unfold zc_buildMix
      rw [if_pos (show 0 ≤ (x : Int) ∧ (x : Int) < M.1 0 4 ∧ (x : Int) < 6 by omega), if_pos (show 0 ≤ (y : Int) ∧ (y : Int) < M.1 0 4 ∧ (y : Int) < 6 by omega), Int.toNat_natCast, Int.toNat_natCast]
      simp only [zlet_v]
      rw [hN, hpd]
      have e1 : (zw_mset M (M.2.1 x)).1 27 = M.2.1 x := by
        unfold zw_mset
        dsimp only
        rw [zset_self]
      have e2 : (zw_mset M (M.2.1 x)).1 0 3 = M.1 0 3 := by
        unfold zw_mset
        dsimp only
        rw [zset_ne _ _ (by decide)]
      have e3 : (zw_mset M (M.2.1 x)).2.1 = M.2.1 := rfl
      rw [e1, e2, e3]
    rw [eb]
    have cel : ∀ A B : Nat, A < 5 → B < 5 → zG U 144 (5 * A + B) = (M.2.1 x (5 * A + B) + (t % p) * M.2.1 y (5 * A + B)) % p := fun A B hA hB5 => by
      rw [← zG_at U 144 A B, ad'.2.2 A B hA hB5, v0, if_pos (by omega), v0, if_neg (by omega), ← (hB.2.2 x ha.2).1 (5 * A + B) (by omega), ← (hB.2.2 y hb.2).1 (5 * A + B) (by omega), show 25 * x + (25 * 144 + 5 * A + B - 25 * 144) = 25 * x + (5 * A + B) by omega, show 25 * y + 5 * A + B = 25 * y + (5 * A + B) by omega]
    have can : zcan p (zaddS (M.2.1 x) (M.2.1 y) 0 0 (t % p) p) := zaddS_can (by omega) (Int.le_refl _) cx
    have cells : ∀ i j : Nat, i + j ≤ 4 → zG U 144 (5 * i + j) = zaddS (M.2.1 x) (M.2.1 y) 0 0 (t % p) p (5 * i + j) := fun i j hij => by
      have k := zK_addS h (M.2.1 x) (M.2.1 y) 0 0 (t % p) hij
      rw [if_pos ⟨Nat.zero_le _, Nat.zero_le _⟩, Nat.sub_zero, Nat.sub_zero] at k
      refine h.ij (by rw [cel i j (by omega) (by omega)]; exact ⟨Int.emod_nonneg _ (by omega), Int.emod_lt_of_pos _ (by omega)⟩) (can _) ?_
      rw [cel i j (by omega) (by omega), h.em, h.ad, h.ml]
      exact k.symm
    have uf : zflt (zG U 144) := fun i j hi hj hij => by
      rw [cel i j hi hj, fx i j hi hj hij, fy i j hi hj hij]
      simp
    have dg : zm_degreeOf U 144 = ztop (N.1 27) := by
      have e1 := zm_degG U 144
      have e2 : zm_degreeOf U 144 = ztop (zG U 144) := e1
      rw [e2, n27]
      exact zT_congr cells
    have fr : zFm S U := fun k i h1 h2 h3 => by
      have e1 : U k i = V k i := by
        by_cases z : k = 3
        · rw [z]; exact ad'.2.1 i (by omega)
        · exact ad'.1 k i z
      rw [e1, v0, if_neg (by omega)]
    have zN : zCI N := by
      rw [hN]
      exact zi_mset (zi_mset hC (zcan_le cx hp.2)) (zcan_le can hp.2)
    have vN : zVE N M := by
      rw [hN]
      exact zv_mset.tr zv_mset
    rw [dg]
    by_cases q : ztop (N.1 27) ≤ 0
    · rw [if_pos q]
      exact ⟨vN, fr, zN, Or.inl ⟨rfl, Or.inr (by show ztop (N.1 27) < 1; omega)⟩⟩
    · rw [if_neg q]
      refine ⟨vN, fr, zN, Or.inr ⟨by show ¬ (1 : Int) = 0; decide, by show ¬ (1 : Int) = 0; decide, by show 1 ≤ ztop (N.1 27); omega, ?_, fun q hq => ?_⟩⟩
      · show zflt (N.1 27)
        rw [n27]; exact zaddS_fl fx
      · show zG U 144 q = N.1 27 q
        rw [n27]
        exact zg25 cells uf (zaddS_fl fx) q hq
  · rw [bI_f hab, if_pos rfl]
    have eb : zc_buildMix M a b t = (0, M) := by
      unfold zc_buildMix
      by_cases q : 0 ≤ a ∧ a < M.1 0 4
      · rw [if_pos (show 0 ≤ a ∧ a < M.1 0 4 ∧ a < 6 by omega), if_neg (fun z => hab ⟨q, by omega⟩)]
      · rw [if_neg (show ¬ (0 ≤ a ∧ a < M.1 0 4 ∧ a < 6) by omega)]
        split <;> rfl
    rw [eb]
    exact zMkB_no hC
theorem zmk_2 {i : Int} {M : zCt} {S : zS2} {a b t : Int} (hR : zBm i M S) (hC : zCI M) : zMkB M S (zc_build M a b 2 t) (zm_makes S a b 2 t) := by
  have hB := hR.1.2.2.1
  have hn := hC.cn
  have ea := zm_areC (S := S) (a := a) (b := b)
  rw [hB.2.1] at ea
  have ec : zc_build M a b 2 t = zc_buildCommon M a b := by
    unfold zc_build
    rw [if_neg (by decide), if_neg (by decide), if_pos rfl, zlet_v]
  have em : zm_makes S a b 2 t = (if zm_areCurves S a b = 0 then (0, S) else if zm_degreeOf (zm_copies (zm_laysCommon S a b) 144 143) 144 ≤ 0 then (0, zm_copies (zm_laysCommon S a b) 144 143) else (1, zm_copies (zm_laysCommon S a b) 144 143)) := by
    unfold zm_makes
    rw [if_neg (by decide), if_neg (by decide), if_pos rfl]
    simp only [zlet_v]
  rw [ec, em, ea]
  by_cases hab : (0 ≤ a ∧ a < M.1 0 4) ∧ (0 ≤ b ∧ b < M.1 0 4)
  · rw [bI_t hab, if_neg (show ¬ (1 : Int) = 0 by decide)]
    obtain ⟨ha, hb⟩ := hab
    have hp := zPr_2 hR.2.1
    obtain ⟨T, t1, t2, t3, t4, t5⟩ := zB_common hB hR.2 hC ha hb
    rw [t1]
    obtain ⟨U, hU⟩ : ∃ U, U = zm_copies T 144 143 := ⟨_, rfl⟩
    have u0 : ∀ a i : Nat, U a i = if a = 3 ∧ 25 * 144 ≤ i ∧ i < 25 * 144 + 25 then T 3 (25 * 143 + (i - 25 * 144)) else T a i := by rw [hU]; exact zm_copies_sp T 144 143
    rw [← hU]
    obtain ⟨N, hN⟩ : ∃ N, N = zw_mset (zw_common M (M.2.1 a.toNat) (M.2.1 b.toNat) (M.1 0 3)) (zcmP (M.2.1 a.toNat) (M.2.1 b.toNat) (M.1 0 3)) := ⟨_, rfl⟩
    have n27 : N.1 27 = zcmP (M.2.1 a.toNat) (M.2.1 b.toNat) (M.1 0 3) := by
      rw [hN]
      unfold zw_mset
      dsimp only
      rw [zset_self]
    have eb : zc_buildCommon M a b = (1, N) := by
      unfold zc_buildCommon
      rw [if_pos (show 0 ≤ a ∧ a < M.1 0 4 ∧ a < 6 by omega), if_pos (show 0 ≤ b ∧ b < M.1 0 4 ∧ b < 6 by omega)]
      simp only [zlet_v]
      have e1 : (zw_common M (M.2.1 a.toNat) (M.2.1 b.toNat) (M.1 0 3)).1 24 = zcmP (M.2.1 a.toNat) (M.2.1 b.toNat) (M.1 0 3) := by
        unfold zw_common
        dsimp only
        rw [zset_self]
      rw [e1, hN]
    rw [eb]
    have gq : ∀ q : Nat, q < 25 → zG U 144 q = zG T 143 q := fun q hq => by
      unfold zG
      rw [u0, if_pos (by omega), show 25 * 143 + (25 * 144 + q - 25 * 144) = 25 * 143 + q by omega]
    have cells : ∀ i j : Nat, i + j ≤ 4 → zG U 144 (5 * i + j) = zcmP (M.2.1 a.toNat) (M.2.1 b.toNat) (M.1 0 3) (5 * i + j) := fun i j hij => by
      rw [gq _ (by omega), t3 i j hij]
    have uf : zflt (zG U 144) := fun i j hi hj hij => by
      rw [gq _ (by omega), t4 i j hi hj hij]
    have dg : zm_degreeOf U 144 = ztop (N.1 27) := by
      have e1 := zm_degG U 144
      have e2 : zm_degreeOf U 144 = ztop (zG U 144) := e1
      rw [e2, n27]
      exact zT_congr cells
    have fr : zFm S U := t2.tr (fun k i h1 h2 h3 => by rw [u0, if_neg (by omega)])
    have can : zcan (M.1 0 3) (zcmP (M.2.1 a.toNat) (M.2.1 b.toNat) (M.1 0 3)) := zcom_can (by omega)
    have zN : zCI N := by
      rw [hN]
      exact zi_mset (zi_common hC hp) (zcan_le can hp.2)
    have vN : zVE N M := by
      rw [hN]
      exact zv_mset.tr zv_common
    rw [dg]
    by_cases q : ztop (N.1 27) ≤ 0
    · rw [if_pos q]
      exact ⟨vN, fr, zN, Or.inl ⟨rfl, Or.inr (by show ztop (N.1 27) < 1; omega)⟩⟩
    · rw [if_neg q]
      refine ⟨vN, fr, zN, Or.inr ⟨by show ¬ (1 : Int) = 0; decide, by show ¬ (1 : Int) = 0; decide, by show 1 ≤ ztop (N.1 27); omega, ?_, fun q hq => ?_⟩⟩
      · show zflt (N.1 27)
        rw [n27]; exact zcmP_fl
      · show zG U 144 q = N.1 27 q
        rw [n27]
        exact zg25 cells uf zcmP_fl q hq
  · rw [bI_f hab, if_pos rfl]
    have eb : zc_buildCommon M a b = (0, M) := by
      unfold zc_buildCommon
      by_cases q : 0 ≤ a ∧ a < M.1 0 4
      · rw [if_pos (show 0 ≤ a ∧ a < M.1 0 4 ∧ a < 6 by omega), if_neg (fun z => hab ⟨q, by omega⟩)]
      · rw [if_neg (show ¬ (0 ≤ a ∧ a < M.1 0 4 ∧ a < 6) by omega)]
        split <;> rfl
    rw [eb]
    exact zMkB_no hC
end ZGd
