section ZIh
/-- one TERM is piled -/
theorem kp_unit1 {K : Type} [Lean.Grind.CommRing K] {p : Int} {φ : Int → K} (h : zKp K p φ) (hpr : zPr p) {i j : Nat} {S : zS2} {G H : (Nat → K) → Prop} (hG : kp_C G) (hij : i + j ≤ 24) (hI : kp_I φ p 325 G H S) (hv : G (kp_w 325 (kc_t 1 i j))) : ∃ T, zm_near_L26 i j S = T ∧ kp_I φ p 325 G (fun w => H w ∨ w = kp_w 325 (kc_t 1 i j)) T ∧ ∀ a i : Nat, a ≠ 10 → a ≠ 11 → a ≠ 12 → ¬ (a = 0 ∧ (i = 23 ∨ i = 26)) → T a i = S a i := by
  have hp := zPr_2 hpr
  have s24 : S 0 24 = (325 : Nat) := by
    obtain ⟨n, hn, _⟩ := hI
    exact hn.2.1
  have e0 : ∀ a i : Nat, (zm_emptiesVector S) a i = if a = 12 ∧ 0 ≤ i ∧ i < 0 + 325 then 0 else S a i := by
    have e : zm_emptiesVector S = zfor zm_emptiesVector_L2 0 S 325 := by
      unfold zm_emptiesVector
      rw [zlet_v, s24]
      rfl
    rw [e]
    exact zfor_fill (g := fun _ => 0) 325 (fun k x hk hx => by
      unfold zm_emptiesVector_L2
      dsimp only
      rw [zlet_v, show (0 + (k : Int)).toNat = 0 + k by omega])
  obtain ⟨V, hV⟩ : ∃ V, V = za (zm_emptiesVector S) 12 (ncol i j) 1 := ⟨_, rfl⟩
  have lt := ncol_lt (i := i) (j := j) (d := 25) (by omega)
  rw [kz_T17.2.2] at lt
  have v0 : ∀ a q : Nat, V a q = if a = 12 ∧ q = ncol i j then 1 else if a = 12 ∧ q < 325 then 0 else S a q := fun a q => by
    rw [hV, za_ap]
    by_cases c : a = 12 ∧ q = ncol i j
    · rw [if_pos c, if_pos c]
    · rw [if_neg c, if_neg c, e0]
      by_cases c2 : a = 12 ∧ q < 325
      · rw [if_pos (by omega), if_pos c2]
      · rw [if_neg (by omega), if_neg c2]
  have vo : ∀ a q : Nat, a ≠ 12 → V a q = S a q := fun a q ha => by rw [v0, if_neg (by omega), if_neg (by omega)]
  have vv : kp_v φ 325 V = kp_w 325 (kc_t 1 i j) := funext fun t => by
    unfold kp_v kp_w kvec
    by_cases q : t < 325
    · rw [if_pos q, if_pos q, v0]
      unfold kc_t
      by_cases c : t = ncol i j
      · rw [if_pos ⟨rfl, c⟩, h.o, c, ndc_ncol, if_pos ⟨rfl, rfl⟩]
      · rw [if_neg (fun z => c z.2), if_pos ⟨rfl, q⟩, h.z, if_neg (fun z => c (by rw [← ncol_ndc t, z.1, z.2]))]
    · rw [if_neg q, if_neg q]
  obtain ⟨z, T, t1, t2, t3⟩ := kp_I.step h hpr (S := V) hG (by decide) (hI.same (fun a q hq => vo a q (by omega))) (fun q hq => by
    rw [v0]
    split
    · omega
    · rw [if_pos ⟨rfl, hq⟩]; omega) (by rw [vv]; exact hv)
  rw [vv] at t2
  have eF : ∃ x : Int, zm_near_L26 i j S = za T 0 26 x := by
    have e1 : zm_near_L26 i j S = if z = 0 then za T 0 26 ((V 0 26) + 0) else za T 0 26 ((V 0 26) + 1) := by
      unfold zm_near_L26
      dsimp only
      rw [zlet_v, zlet_v, zm_long_n, Int.toNat_natCast, zlet_v, ← hV, t1]
      simp only [zlet_v]
    rw [e1]
    by_cases q : z = 0
    · exact ⟨_, by rw [if_pos q]⟩
    · exact ⟨_, by rw [if_neg q]⟩
  obtain ⟨x, hx⟩ := eF
  refine ⟨za T 0 26 x, hx, t2.same (fun a q hq => za_ne (by omega)), fun a q h1 h2 h3 h4 => ?_⟩
  rw [za_ne (by omega), t3 a q h1 h2 h3 (by omega), vo a q h3]
/-- all TERMS up to 8 are piled -/
theorem kp_units {K : Type} [Lean.Grind.CommRing K] {p : Int} {φ : Int → K} (h : zKp K p φ) (hpr : zPr p) {S : zS2} {G H : (Nat → K) → Prop} (hG : kp_C G) (hI : kp_I φ p 325 G H S) (hv : ∀ i j, i + j ≤ 8 → G (kp_w 325 (kc_t 1 i j))) : ∃ T, zfor zm_near_L16 0 S 9 = T ∧ kp_I φ p 325 G (fun w => H w ∨ ∃ i j, i + j ≤ 8 ∧ w = kp_w 325 (kc_t 1 i j)) T ∧ ∀ a i : Nat, a ≠ 10 → a ≠ 11 → a ≠ 12 → ¬ (a = 0 ∧ (i = 23 ∨ i = 26)) → T a i = S a i := by
  have lp := zfor_ix (step := zm_near_L16) (a := 0) (s := S) (fun (n : Nat) (X : zS2) => kp_I φ p 325 G (fun w => H w ∨ ∃ i j, i < n ∧ i + j ≤ 8 ∧ w = kp_w 325 (kc_t 1 i j)) X ∧ ∀ a i : Nat, a ≠ 10 → a ≠ 11 → a ≠ 12 → ¬ (a = 0 ∧ (i = 23 ∨ i = 26)) → X a i = S a i) ⟨hI.mono (fun v hv => by
      rcases hv with hv | ⟨i, j, q, _⟩
      · exact hv
      · exact absurd q (Nat.not_lt_zero _)), fun _ _ _ _ _ _ => rfl⟩ 9 (fun i X hi hX => by
    rw [show 0 + (i : Int) = (i : Int) by omega]
    have e2 : zm_near_L16 i X = zfor (zm_near_L26 i) 0 X (9 - i) := by
      unfold zm_near_L16
      dsimp only
      rw [zlet_v, show (8 - (i : Int) + 1 - 0).toNat = 9 - i by omega]
    rw [e2]
    have lp2 := zfor_ix (step := zm_near_L26 i) (a := 0) (s := X) (fun (n : Nat) (X : zS2) => kp_I φ p 325 G (fun w => H w ∨ ∃ i' j, (i' < i ∨ (i' = i ∧ j < n)) ∧ i' + j ≤ 8 ∧ w = kp_w 325 (kc_t 1 i' j)) X ∧ ∀ a i : Nat, a ≠ 10 → a ≠ 11 → a ≠ 12 → ¬ (a = 0 ∧ (i = 23 ∨ i = 26)) → X a i = S a i) ⟨hX.1.mono (fun v hv => by
        rcases hv with hv | ⟨i', j, q, q2⟩
        · exact Or.inl hv
        · exact Or.inr ⟨i', j, by omega, q2⟩), hX.2⟩ (9 - i) (fun j Y hj hY => by
      rw [show 0 + (j : Int) = (j : Int) by omega]
      obtain ⟨T, t1, t2, t3⟩ := kp_unit1 h hpr (i := i) (j := j) hG (by omega) hY.1 (hv i j (by omega))
      rw [t1]
      refine ⟨t2.mono (fun v hv => ?_), fun a q h1 h2 h3 h4 => by rw [t3 a q h1 h2 h3 h4, hY.2 a q h1 h2 h3 h4]⟩
      rcases hv with hv | ⟨i', j', q, q2, q3⟩
      · exact Or.inl (Or.inl hv)
      · by_cases z : i' = i ∧ j' = j
        · rw [z.1, z.2] at q3
          exact Or.inr q3
        · exact Or.inl (Or.inr ⟨i', j', by omega, q2, q3⟩))
    refine ⟨lp2.1.mono (fun v hv => ?_), lp2.2⟩
    rcases hv with hv | ⟨i', j, q, q2⟩
    · exact Or.inl hv
    · exact Or.inr ⟨i', j, by omega, q2⟩)
  refine ⟨_, rfl, lp.1.mono (fun v hv => ?_), lp.2⟩
  rcases hv with hv | ⟨i, j, q, q2⟩
  · exact Or.inl hv
  · exact Or.inr ⟨i, j, by omega, q, q2⟩
theorem kG8_C {K : Type} [Lean.Grind.CommRing K] (N1 N2 : Nat) (f g : Nat → Nat → K) : kp_C (kG8 N1 N2 f g) := by
  have GC := kp_G_C 325 N1 N2 f g
  refine ⟨⟨_, fun _ _ => 0, GC.1, fun _ _ _ => rfl, funext fun k => by rw [kp_wz, ka_az]⟩, fun v w c ⟨u, P, a1, a2, a3⟩ ⟨u', P', b1, b2, b3⟩ => ⟨_, fun i j => P i j + c * P' i j, GC.2 _ _ c a1 b1, fun i j hij => ?_, funext fun k => ?_⟩⟩
  · show P i j + c * P' i j = 0
    rw [a2 i j hij, b2 i j hij, ka_mz, ka_az]
  · rw [a3, b3, kp_wac]
    show u k + kp_w 325 P k + c * (u' k + kp_w 325 P' k) = u k + c * u' k + (kp_w 325 P k + c * kp_w 325 P' k)
    generalize kp_w 325 P k = z1
    generalize kp_w 325 P' k = z2
    generalize u k = z3
    generalize u' k = z4
    clear a3 b3
    grind
/-- NEAR, both -/
theorem zB_near {M : zCt} {S : zS2} (hB : zBs M S) (hX : zBx M) (hC : zCI M) {a b : Int} (ha : 0 ≤ a ∧ a < M.1 0 4) (hb : 0 ≤ b ∧ b < M.1 0 4) : ∃ T, zm_near S a b = (znrP (M.2.1 a.toNat) (M.2.1 b.toNat) (M.1 0 3), T) ∧ zFm S T := by
  obtain ⟨K, iK, φ, hK⟩ := zKp_ex hX.1
  have hp := zPr_2 hX.1
  have cx : zcan (M.1 0 3) (M.2.1 a.toNat) := hC.cv a.toNat (by omega)
  have cy : zcan (M.1 0 3) (M.2.1 b.toNat) := hC.cv b.toNat (by omega)
  have tx : 0 < ztop (M.2.1 a.toNat) := (hB.2.2 a.toNat (by omega)).2.2
  have ty : 0 < ztop (M.2.1 b.toNat) := (hB.2.2 b.toNat (by omega)).2.2
  have tx4 := zT_le (M.2.1 a.toNat)
  have ty4 := zT_le (M.2.1 b.toNat)
  obtain ⟨n, hn⟩ : ∃ n : Nat, (n : Int) = ztop (M.2.1 a.toNat) := ⟨(ztop (M.2.1 a.toNat)).toNat, by omega⟩
  obtain ⟨m, hm⟩ : ∃ m : Nat, (m : Int) = ztop (M.2.1 b.toNat) := ⟨(ztop (M.2.1 b.toNat)).toNat, by omega⟩
  obtain ⟨r1, r2, d1, d2, e1⟩ := knear hK hp.1 cx cy hn hm
  obtain ⟨T, c, t1, t2, t3, t4, t5, t6, t7⟩ := zB_forms hB hX hC ha hb (dd := 24) (Nat.le_refl _) hK hn hm
  rw [show 24 + 1 - n = 25 - n by omega, show 24 + 1 - m = 25 - m by omega, kz_T17.2.2] at t4 t5 t6
  rw [kz_T17.2.2] at t3
  obtain ⟨f, hf⟩ : ∃ f, f = zq φ (M.2.1 a.toNat) := ⟨_, rfl⟩
  obtain ⟨g, hg⟩ : ∃ g, g = zq φ (M.2.1 b.toNat) := ⟨_, rfl⟩
  rw [← hf, ← hg] at d1 d2 t4 t5 t6
  have cr : c = r1 := kl_dim_u hK.F t4 d1
  have GC := kG8_C (nT (25 - n)) (nT (25 - m)) f g
  have up : ∀ v, kp_G 325 (nT (25 - n)) (nT (25 - m)) f g v → kG8 (nT (25 - n)) (nT (25 - m)) f g v := fun v hv => ⟨v, fun _ _ => 0, hv, fun _ _ _ => rfl, funext fun k => by rw [kp_wz, ka_az]⟩
  obtain ⟨U, u1, u2, u3⟩ := kp_units hK hX.1 (S := T) GC (H := kp_G 325 (nT (25 - n)) (nT (25 - m)) f g) ⟨c, t3, fun r hr => up _ (t5 r hr), t6⟩ (fun i j hij => ⟨_, kc_t 1 i j, (kp_G_C 325 (nT (25 - n)) (nT (25 - m)) f g).1, fun x y hxy => if_neg (by omega), funext fun k => (ka_za _).symm⟩)
  obtain ⟨q, q1, q2⟩ := u2.dim (fun v ⟨w, P, p1, p2, p3⟩ n' hw => by
    have s1 := hw w (Or.inl p1)
    have s2 := kl_sp_sum (x := kp_x φ 325 U) (n := n') (fun s => P (ndc s).1 (ndc s).2) (fun s => kp_w 325 (kc_t 1 (ndc s).1 (ndc s).2)) (nT (8 + 1)) (fun s hs => hw _ (Or.inr ⟨_, _, by have := ndc_dg hs; omega, rfl⟩))
    have s3 := kl_sp_add s1 s2 1
    refine (congrArg (kl_sp (kp_x φ 325 U) n') (funext fun k => ?_)).mp s3
    rw [p3, ka_om, kp_wsum]
    refine congrArg (fun z => w k + z) (congrFun (congrArg (kp_w 325) (funext fun i => funext fun j => ?_)) k)
    by_cases y : ncol i j < nT (8 + 1)
    · rw [ka_s_one (k := ncol i j) _ y (fun t ht hne => by
        unfold kc_t
        rw [if_neg (fun z => hne (by rw [z.1, z.2, ncol_ndc])), ka_mz]), ndc_ncol]
      unfold kc_t
      rw [if_pos ⟨rfl, rfl⟩]
      exact Lean.Grind.Semiring.mul_one _
    · rw [p2 i j (Classical.byContradiction fun z => y (ncol_lt (by omega)))]
      exact ka_s_zero _ (fun t ht => by
        unfold kc_t
        rw [if_neg (fun z => y (by rw [z.1, z.2, ncol_ndc]; exact ht)), ka_mz]))
  have qr : q = r2 := kl_dim_u hK.F q2 d2
  refine ⟨U, ?_, fun x y h1 h2 h3 => ?_⟩
  · unfold zm_near
    rw [show (24 : Int) = ((24 : Nat) : Int) from rfl, t1, zlet_v, show (8 + 1 - 0 : Int).toNat = 9 by decide, u1, zlet_v, q1, t2, e1, cr, qr]
  · rw [u3 x y (by omega) (by omega) (by omega) (by omega)]
    exact t7 x y (by omega) (by omega) (by omega) (by omega)
theorem zfact_25 (L : Nat) : zlK_25 zBm L := by
  intro i M S a b what _ _ hR hC hI _ _ _
  have hB := hR.1.2.2.1
  have hX := hR.2
  have cn := hC.cn
  have ea := zm_areC (S := S) (a := a) (b := b)
  rw [hB.2.1] at ea
  have al : ∃ t N' U', zc_total M a b what = (t, N') ∧ zm_total S a b what = (t, U') ∧ zVE N' M ∧ zFm S U' := by
    by_cases h : (0 ≤ a ∧ a < M.1 0 4) ∧ (0 ≤ b ∧ b < M.1 0 4)
    · obtain ⟨V, c1, c2, c3, c4, c5⟩ := zB_common hB hX hC h.1 h.2
      obtain ⟨G, hG⟩ : ∃ G, G = zw_common M (M.2.1 a.toNat) (M.2.1 b.toNat) (M.1 0 3) := ⟨_, rfl⟩
      have vG : zVE G M := by rw [hG]; exact zv_common
      have G24 : G.1 24 = zcmP (M.2.1 a.toNat) (M.2.1 b.toNat) (M.1 0 3) := by rw [hG]; exact zw_common24
      have hBV := zBs_q hB cn.2 zVE.rf c2
      have ec : zc_total M a b what = (if ztop (zcmP (M.2.1 a.toNat) (M.2.1 b.toNat) (M.1 0 3)) ≤ 0 then (if what = 0 then (ztop (M.2.1 a.toNat) * ztop (M.2.1 b.toNat), G) else (if what = 1 then (znrP (M.2.1 a.toNat) (M.2.1 b.toNat) (M.1 0 3), G) else (if what = 2 then ((ztop (M.2.1 a.toNat) * ztop (M.2.1 b.toNat)) - znrP (M.2.1 a.toNat) (M.2.1 b.toNat) (M.1 0 3), G) else (if what = 3 then zc_timesBetween G a b 0 ((M.1 0 3) * (M.1 0 3)) else (if what = 4 then zc_timesBetween G a b ((M.1 0 3) * (M.1 0 3)) (zmany (M.1 0 3)) else (-1, G)))))) else (-1, G)) := by
        unfold zc_total
        rw [if_pos (show 0 ≤ a ∧ a < M.1 0 4 ∧ a < 6 by omega), if_pos (show 0 ≤ b ∧ b < M.1 0 4 ∧ b < 6 by omega)]
        simp only [zlet_v]
        rw [← hG, G24, vG.p, vG.1]
      by_cases t : 0 ≤ what ∧ what ≤ 4
      · have em : zm_total S a b what = (if ztop (zcmP (M.2.1 a.toNat) (M.2.1 b.toNat) (M.1 0 3)) ≤ 0 then (if what = 0 then (ztop (M.2.1 a.toNat) * ztop (M.2.1 b.toNat), V) else (if what = 1 then zm_near V a b else (if what = 2 then ((ztop (M.2.1 a.toNat) * ztop (M.2.1 b.toNat)) - (zm_near V a b).1, (zm_near V a b).2) else (if what = 3 then zm_timesAmong V a b 0 ((M.1 0 3) * (M.1 0 3)) else zm_timesAmong V a b ((M.1 0 3) * (M.1 0 3)) (zmany (M.1 0 3)))))) else (-1, V)) := by
          unfold zm_total
          rw [ea, bI_t h, zB_isIn, if_pos t]
          simp only [zlet_v]
          rw [if_neg (by decide), if_neg (by decide), c1, c5, zB_top hBV h.1, zB_top hBV h.2, hBV.1, zB_points hBV.1]
        rw [ec, em]
        by_cases z : ztop (zcmP (M.2.1 a.toNat) (M.2.1 b.toNat) (M.1 0 3)) ≤ 0
        · rw [if_pos z, if_pos z]
          obtain ⟨T, n1, n2⟩ := zB_near hBV hX hC h.1 h.2
          by_cases q0 : what = 0
          · rw [if_pos q0, if_pos q0]
            exact ⟨_, G, V, rfl, rfl, vG, c2⟩
          · rw [if_neg q0, if_neg q0]
            by_cases q1 : what = 1
            · rw [if_pos q1, if_pos q1, n1]
              exact ⟨_, G, T, rfl, rfl, vG, c2.tr n2⟩
            · rw [if_neg q1, if_neg q1]
              by_cases q2 : what = 2
              · rw [if_pos q2, if_pos q2, n1]
                dsimp only
                exact ⟨_, G, T, rfl, rfl, vG, c2.tr n2⟩
              · rw [if_neg q2, if_neg q2]
                by_cases q3 : what = 3
                · rw [if_pos q3, if_pos q3]
                  exact zB_between hB hX hC h.1 h.2 (by unfold zmany; have := hC.p; omega) (Int.le_refl _) vG G24 c2
                · rw [if_neg q3, if_neg q3, if_pos (by omega)]
                  exact zB_between hB hX hC h.1 h.2 (Int.le_refl _) (Int.mul_nonneg (by have := hC.p; omega) (by have := hC.p; omega)) vG G24 c2
        · rw [if_neg z, if_neg z]
          exact ⟨_, G, V, rfl, rfl, vG, c2⟩
      · have em : zm_total S a b what = (-1, S) := by
          unfold zm_total
          rw [ea, bI_t h, zlet_v, if_neg (by decide), zB_isIn, if_neg t, zlet_v, if_pos rfl]
        rw [ec, em]
        refine ⟨-1, G, S, ?_, rfl, vG, zFm.rf⟩
        by_cases z : ztop (zcmP (M.2.1 a.toNat) (M.2.1 b.toNat) (M.1 0 3)) ≤ 0
        · rw [if_pos z, if_neg (by omega), if_neg (by omega), if_neg (by omega), if_neg (by omega), if_neg (by omega)]
        · rw [if_neg z]
    · refine ⟨-1, M, S, ?_, ?_, zVE.rf, zFm.rf⟩
      · unfold zc_total
        by_cases q : 0 ≤ a ∧ a < M.1 0 4
        · rw [if_pos (show 0 ≤ a ∧ a < M.1 0 4 ∧ a < 6 by omega), if_neg (fun z => h ⟨q, by omega⟩)]
        · rw [if_neg (show ¬ (0 ≤ a ∧ a < M.1 0 4 ∧ a < 6) by omega)]
          split <;> rfl
      · unfold zm_total
        rw [ea, bI_f h, zlet_v, if_pos rfl]
  obtain ⟨t, N', U', e1, e2, e3, e4⟩ := al
  rw [e1, e2]
  exact ⟨rfl, zBm_q hR hC e3 e4⟩
end ZIh
