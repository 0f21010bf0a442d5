section ZGp
theorem zc_forms_n (z : Int) : zc_forms z = (nT (z + 1).toNat : Nat) := by
  unfold zc_forms
  by_cases q : 0 ≤ z
  · rw [if_pos q]
    obtain ⟨k, rfl⟩ : ∃ k : Nat, z = k := ⟨z.toNat, by omega⟩
    rw [show ((k : Int) + 1).toNat = k + 1 by omega]
    exact zm_many_n k
  · rw [if_neg q, show (z + 1).toNat = 0 by omega]
    rfl
/-- the pile of all multiples, in the model -/
theorem zB_forms {M : zCt} {S : zS2} (hB : zBs M S) (hX : zBx M) (hC : zCI M) {a b : Int} (ha : 0 ≤ a ∧ a < M.1 0 4) (hb : 0 ≤ b ∧ b < M.1 0 4) {dd : Nat} (hd : dd ≤ 24) {K : Type} [Lean.Grind.CommRing K] {φ : Int → K} (h : zKp K (M.1 0 3) φ) {n m : Nat} (hn : (n : Int) = ztop (M.2.1 a.toNat)) (hm : (m : Int) = ztop (M.2.1 b.toNat)) : ∃ (T : zS2) (c : Nat), zm_laysForms S a b dd = T ∧ T 0 23 = c ∧ kp_E φ (M.1 0 3) (nT (dd + 1)) c T ∧ kl_dim (kp_G (nT (dd + 1)) (nT (dd + 1 - n)) (nT (dd + 1 - m)) (zq φ (M.2.1 a.toNat)) (zq φ (M.2.1 b.toNat))) c ∧ (∀ r, r < c → kp_G (nT (dd + 1)) (nT (dd + 1 - n)) (nT (dd + 1 - m)) (zq φ (M.2.1 a.toNat)) (zq φ (M.2.1 b.toNat)) (kp_x φ (nT (dd + 1)) T r)) ∧ (∀ v, kp_G (nT (dd + 1)) (nT (dd + 1 - n)) (nT (dd + 1 - m)) (zq φ (M.2.1 a.toNat)) (zq φ (M.2.1 b.toNat)) v → kl_sp (kp_x φ (nT (dd + 1)) T) c v) ∧ ∀ k i : Nat, k ≠ 10 → k ≠ 11 → k ≠ 12 → ¬ (k = 0 ∧ (i = 23 ∨ i = 24 ∨ i = 26)) → T k i = S k i := by
  have hpr := hX.1
  have hp := zPr_2 hpr
  have cn := hC.cn
  obtain ⟨p, hpd⟩ : ∃ p, p = M.1 0 3 := ⟨_, rfl⟩
  rw [← hpd] at h hpr hp ⊢
  obtain ⟨x, rfl⟩ : ∃ x : Nat, a = x := ⟨a.toNat, by omega⟩
  obtain ⟨y, rfl⟩ : ∃ y : Nat, b = y := ⟨b.toNat, by omega⟩
  rw [Int.toNat_natCast] at hn ⊢
  rw [Int.toNat_natCast] at hm ⊢
  have cx : zcan p (M.2.1 x) := by rw [hpd]; exact hC.cv x ha.2
  have cy : zcan p (M.2.1 y) := by rw [hpd]; exact hC.cv y hb.2
  have tx4 := zT_le (M.2.1 x)
  have ty4 := zT_le (M.2.1 y)
  obtain ⟨f1, _⟩ := zT_ed h (fun i j _ => cx _) hn
  obtain ⟨g1, _⟩ := zT_ed h (fun i j _ => cy _) hm
  obtain ⟨f, hf⟩ : ∃ f, f = zq φ (M.2.1 x) := ⟨_, rfl⟩
  obtain ⟨g, hg⟩ : ∃ g, g = zq φ (M.2.1 y) := ⟨_, rfl⟩
  rw [← hf, ← hg]
  obtain ⟨W, hW⟩ : ∃ W, W = nT (dd + 1) := ⟨_, rfl⟩
  have hW3 : W ≤ 325 := by
    rw [hW]
    have := nT_mono (show dd + 1 ≤ 25 by omega)
    rw [nT_9.2.2.2.2] at this
    exact this
  obtain ⟨N1, hN1⟩ : ∃ N1, N1 = nT (dd + 1 - n) := ⟨_, rfl⟩
  obtain ⟨N2, hN2⟩ : ∃ N2, N2 = nT (dd + 1 - m) := ⟨_, rfl⟩
  rw [← hW, ← hN1, ← hN2]
  have GC := kp_G_C W N1 N2 f g
  obtain ⟨b1, b2⟩ := kp_begin (φ := φ) (p := p) (W := W) (S := S) (kp_G W N1 N2 f g) (by rw [hB.1, hpd])
  obtain ⟨S1, hS1⟩ : ∃ S1, S1 = zm_beginsPile S W := ⟨_, rfl⟩
  rw [← hS1] at b1 b2
  obtain ⟨S2, c1, c2, c3⟩ := kp_form h hpr (cv := x) (dd := dd) (m := n) (c := M.2.1 x) GC hW hW3 (by omega) b1 (by
    rw [zm_degG, hn]
    refine zT_congr (fun i j hij => ?_)
    unfold zG
    rw [b2 3 _ (by decide) (by omega)]
    exact (hB.2.2 x ha.2).1 _ (by omega)) (fun i j hij => by
    have e := zM_cell (U := S1) (g := x) (i := i) (j := j)
    rw [e, b2 3 _ (by decide) (by omega), show 25 * x + 5 * i + j = 25 * x + (5 * i + j) by omega]
    exact (hB.2.2 x ha.2).1 _ (by omega)) (fun i j _ => cx _) f1 (fun i j hij => by
    rw [← hf]
    exact kp_G_f W N1 N2 f g (by rw [hN1]; exact ncol_lt (by omega)))
  obtain ⟨S3, d1, d2, d3⟩ := kp_form h hpr (cv := y) (dd := dd) (m := m) (c := M.2.1 y) GC hW hW3 (by omega) c2 (by
    rw [zm_degG, hm]
    refine zT_congr (fun i j hij => ?_)
    unfold zG
    rw [c3 3 _ (by decide) (by decide) (by decide) (by omega), b2 3 _ (by decide) (by omega)]
    exact (hB.2.2 y hb.2).1 _ (by omega)) (fun i j hij => by
    have e := zM_cell (U := S2) (g := y) (i := i) (j := j)
    rw [e, c3 3 _ (by decide) (by decide) (by decide) (by omega), b2 3 _ (by decide) (by omega), show 25 * y + 5 * i + j = 25 * y + (5 * i + j) by omega]
    exact (hB.2.2 y hb.2).1 _ (by omega)) (fun i j _ => cy _) g1 (fun i j hij => by
    rw [← hg]
    exact kp_G_g W N1 N2 f g (by rw [hN2]; exact ncol_lt (by omega)))
  have em : zm_laysForms S x y dd = S3 := by
    unfold zm_laysForms
    rw [zm_many_n, ← hW, zlet_v, ← hS1, zlet_v, c1, zlet_v, d1, zlet_v]
  obtain ⟨c, e1, e2, e3⟩ := d2
  have sp : ∀ v, kp_G W N1 N2 f g v → kl_sp (kp_x φ W S3) c v := fun v hv => by
    refine kp_G_sp (fun t ht => e3 _ (Or.inl (Or.inr ⟨(ndc t).1, (ndc t).2, ?_, by rw [hf]⟩))) (fun t ht => e3 _ (Or.inr ⟨(ndc t).1, (ndc t).2, ?_, by rw [hg]⟩)) hv
    · rw [hN1] at ht
      have := ndc_dg ht
      omega
    · rw [hN2] at ht
      have := ndc_dg ht
      omega
  exact ⟨S3, c, em, e1.2.2.1, e1, ⟨kp_x φ W S3, e1.2.2.2.2.2.2, e2, sp⟩, e2, sp, fun k i h1 h2 h3 h4 => by
    rw [d3 k i h1 h2 h3 (by omega), c3 k i h1 h2 h3 (by omega), b2 k i h2 (by omega)]⟩
theorem zfact_24 (L : Nat) : zlK_24 zBm L := by
  intro i M S a1 a2 a3 _ _ hR hC hI _ _ _
  have hB := hR.1.2.2.1
  have cn := hC.cn
  have ea := zm_areC (S := S) (a := a1) (b := a2)
  rw [hB.2.1] at ea
  have no : ∀ c : Int × zCt, ∀ m : Int × zS2, c = (-1, M) → m = (-1, S) → c.1 = m.1 ∧ zBm (i + 8) c.2 m.2 := fun c m e1 e2 => by
    rw [e1, e2]
    exact ⟨rfl, zBm_q hR hC zVE.rf zFm.rf⟩
  by_cases h : (0 ≤ a1 ∧ a1 < M.1 0 4) ∧ (0 ≤ a2 ∧ a2 < M.1 0 4)
  · by_cases t : 0 ≤ a3 ∧ a3 ≤ 24
    · obtain ⟨dd, rfl⟩ : ∃ k : Nat, a3 = k := ⟨a3.toNat, by omega⟩
      obtain ⟨K, iK, φ, hK⟩ := zKp_ex hR.2.1
      have hp := zPr_2 hR.2.1
      have tx : 0 < ztop (M.2.1 a1.toNat) := (hB.2.2 a1.toNat (by omega)).2.2
      have ty : 0 < ztop (M.2.1 a2.toNat) := (hB.2.2 a2.toNat (by omega)).2.2
      have cx : zcan (M.1 0 3) (M.2.1 a1.toNat) := hC.cv a1.toNat (by omega)
      have cy : zcan (M.1 0 3) (M.2.1 a2.toNat) := hC.cv a2.toNat (by omega)
      have tx4 := zT_le (M.2.1 a1.toNat)
      have ty4 := zT_le (M.2.1 a2.toNat)
      obtain ⟨n, hn⟩ : ∃ n : Nat, (n : Int) = ztop (M.2.1 a1.toNat) := ⟨(ztop (M.2.1 a1.toNat)).toNat, by omega⟩
      obtain ⟨m, hm⟩ : ∃ m : Nat, (m : Int) = ztop (M.2.1 a2.toNat) := ⟨(ztop (M.2.1 a2.toNat)).toNat, by omega⟩
      obtain ⟨T, c, t1, t2, _, t4, _, _, t7⟩ := zB_forms hB hR.2 hC h.1 h.2 (dd := dd) (by omega) hK hn hm
      obtain ⟨u, w, hh, hU⟩ := kUW_ex hK cx cy (by omega) (by omega)
      obtain ⟨f1, f2⟩ := zT_ed hK (fun i j _ => cx _) hn
      obtain ⟨g1, g2⟩ := zT_ed hK (fun i j _ => cy _) hm
      obtain ⟨e, nu, nw, em, en, ⟨h1, h2⟩, ⟨u1, u2⟩, ⟨w1, w2⟩⟩ := kUW_dg hK.F hU f1 f2 g1 g2
      have rk := kp_rank hK.F hU em en f1 g1 u1 u2 w1 rfl t4
      obtain ⟨⟨ν, ν0, d4⟩, d5⟩ := kpartC hK hp.1 cx cy (by omega) (by omega) hU
      have cc : zcan (M.1 0 3) (zcmP (M.2.1 a1.toNat) (M.2.1 a2.toNat) (M.1 0 3)) := zcom_can (by omega)
      have te : ztop (zcmP (M.2.1 a1.toNat) (M.2.1 a2.toNat) (M.1 0 3)) = e := zT_eq hK (fun i j _ => cc _) (n := e) (fun i j hij => by
        rw [d4]
        show ν * hh i j = 0
        rw [h1 i j hij, ka_mz]) (by
        obtain ⟨i, j, hij, q⟩ := h2
        refine ⟨i, j, hij, ?_⟩
        rw [d4]
        intro z
        rcases hK.F.dom _ _ z with z | z
        · exact ν0 z
        · exact q z)
      obtain ⟨N, hN⟩ : ∃ N, N = zw_common M (M.2.1 a1.toNat) (M.2.1 a2.toNat) (M.1 0 3) := ⟨_, rfl⟩
      have n24 : N.1 24 = zcmP (M.2.1 a1.toNat) (M.2.1 a2.toNat) (M.1 0 3) := by
        rw [hN]
        unfold zw_common
        dsimp only
        rw [zset_self]
      have ec : zc_parts M a1 a2 dd = ((nT (dd + 1) : Int) - (c : Int), N) := by
        unfold zc_parts
        rw [if_pos (show 0 ≤ a1 ∧ a1 < M.1 0 4 ∧ a1 < 6 by omega), if_pos (show 0 ≤ a2 ∧ a2 < M.1 0 4 ∧ a2 < 6 by omega), if_neg (show ¬ (dd : Int) < 0 by omega), if_pos (show (dd : Int) ≤ 24 by omega)]
        simp only [zlet_v]
        rw [← hN, n24, te, zc_forms_n, zc_forms_n, zc_forms_n, zc_forms_n, ← hn, ← hm, show ((dd : Int) + 1).toNat = dd + 1 by omega, show ((dd : Int) - (n : Int) + 1).toNat = dd + 1 - n by omega, show ((dd : Int) - (m : Int) + 1).toNat = dd + 1 - m by omega, show ((dd : Int) - ((n : Int) + (m : Int) - (e : Int)) + 1).toNat = dd + 1 + e - n - m by omega]
        refine Prod.ext ?_ rfl
        show ((nT (dd + 1) : Int) - (nT (dd + 1 - n) : Int) - (nT (dd + 1 - m) : Int)) + (nT (dd + 1 + e - n - m) : Int) = (nT (dd + 1) : Int) - (c : Int)
        omega
      have em2 : zm_parts S a1 a2 dd = ((nT (dd + 1) : Int) - (c : Int), T) := by
        unfold zm_parts
        rw [ea, bI_t h, zlet_v, if_neg (by decide), zB_isIn, if_pos t, zlet_v, if_neg (by decide), t1, zlet_v, zm_many_n, zlet_v, t2]
      rw [ec, em2]
      exact ⟨rfl, zBm_q hR hC (by rw [hN]; exact zv_common) (fun k i h1 h2 h3 => t7 k i (by omega) (by omega) (by omega) (by omega))⟩
    · refine no _ _ ?_ ?_
      · unfold zc_parts
        rw [if_pos (show 0 ≤ a1 ∧ a1 < M.1 0 4 ∧ a1 < 6 by omega), if_pos (show 0 ≤ a2 ∧ a2 < M.1 0 4 ∧ a2 < 6 by omega)]
        by_cases q : a3 < 0
        · rw [if_pos q]
        · rw [if_neg q, if_neg (fun z => t ⟨by omega, z⟩)]
      · unfold zm_parts
        rw [ea, bI_t h, zlet_v, if_neg (by decide), zB_isIn, if_neg t, zlet_v, if_pos rfl]
  · refine no _ _ ?_ ?_
    · unfold zc_parts
      by_cases q : 0 ≤ a1 ∧ a1 < M.1 0 4
      · rw [if_pos (show 0 ≤ a1 ∧ a1 < M.1 0 4 ∧ a1 < 6 by omega), if_neg (fun z => h ⟨q, by omega⟩)]
      · rw [if_neg (show ¬ (0 ≤ a1 ∧ a1 < M.1 0 4 ∧ a1 < 6) by omega)]
        split <;> rfl
    · unfold zm_parts
      rw [ea, bI_f h, zlet_v, if_pos rfl]
end ZGp
