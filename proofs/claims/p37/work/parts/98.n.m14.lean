section ZWo
theorem kM_n0 {K : Type} [Lean.Grind.CommRing K] {p : Int} {φ : Int → K} (h : zKp K p φ) {a : Nat → Int} (ha : zcan p a) {n : Nat} (hn : (n : Int) = ztop a) (pt : Int) : ∃ i j : Nat, i + j ≤ 4 ∧ zlook a p (zpx pt p) (zpy pt p) (zpz pt p) (5 * i + j) ≠ 0 := by
  refine Classical.byContradiction fun no => ?_
  have ta4 := zT_le a
  obtain ⟨f1, i, j, hij, f2⟩ := zT_ed h (fun i j _ => ha _) hn
  have z : ∀ i j, kLam φ p pt n (zq φ a) i j = 0 := fun i j => by
    rw [← kLam_at h pt a n hn]
    by_cases c : i + j ≤ 4
    · rw [zq_t c, show zlook a p (zpx pt p) (zpy pt p) (zpz pt p) (5 * i + j) = 0 from Classical.byContradiction fun q => no ⟨i, j, c, q⟩]
      exact h.z
    · exact zq_flt i j (by omega)
  have hΛ := kLam_ok φ p pt
  have e := hΛ.2.1 n (24 - n) (zq φ a) (kc_t 1 0 0) (by omega) f1 (fun i j hij => if_neg (by omega))
  rw [kc_mul_comm (zq φ a), kc_1_mul, show n + (24 - n) = 24 by omega] at e
  refine f2 (hΛ.2.2.2 (zq φ a) (fun i j hij => f1 i j (by omega)) (fun i j => ?_) i j)
  rw [e]
  exact ka_s_zero _ (fun x _ => ka_s_zero _ (fun y _ => by rw [z, ka_zm]))
theorem kM_van {K : Type} [Lean.Grind.CommRing K] {p : Int} {φ : Int → K} (h : zKp K p φ) {a : Nat → Int} (ha : zcan p a) {n : Nat} (hn : (n : Int) = ztop a) (pt : Int) : ∀ i j : Nat, i + j < (zleast (zlook a p (zpx pt p) (zpy pt p) (zpz pt p))).toNat → kLam φ p pt n (zq φ a) i j = 0 := fun i j hij => by
  have r := zleast_rng (zlook a p (zpx pt p) (zpy pt p) (zpz pt p))
  rw [← kLam_at h pt a n hn, zq_t (by omega)]
  have q := (zl_sp (kM_n0 h ha hn pt)).2 i j (by omega)
  rw [show zlook a p (zpx pt p) (zpy pt p) (zpz pt p) (5 * i + j) = 0 from Classical.byContradiction fun z => by
    have := q z
    omega]
  exact h.z
theorem kM_v0 {K : Type} [Lean.Grind.CommRing K] {p : Int} {φ : Int → K} (h : zKp K p φ) (hpr : zPr p) {a : Nat → Int} (hf : zflt a) {n : Nat} (hn : (n : Int) = ztop a) (pt : Int) : zval a (zpx pt p) (zpy pt p) (zpz pt p) p = 0 ↔ kLam φ p pt n (zq φ a) 0 0 = 0 := by
  have hp := zPr_2 hpr
  rw [zlook_0 hpr hf (by omega) pt, ← kLam_at h pt a n hn, zq_t (by omega)]
  exact (h.z0 (zlook_can (by omega) _)).symm
/-- what holds at one POINT -/
theorem kM_3 {K : Type} [Lean.Grind.CommRing K] {p : Int} {φ : Int → K} (h : zKp K p φ) (hpr : zPr p) {a b : Nat → Int} (ha : zcan p a) (hb : zcan p b) (hfa : zflt a) (hfb : zflt b) {n m : Nat} (hn : (n : Int) = ztop a) (hm : (m : Int) = ztop b) {pt : Int} {t : Nat} (hk : kPT (kLam φ p pt) n m (zq φ a) (zq φ b) t) : (0 < t ↔ zval a (zpx pt p) (zpy pt p) (zpz pt p) p = 0 ∧ zval b (zpx pt p) (zpy pt p) (zpz pt p) p = 0) ∧ zleast (zlook a p (zpx pt p) (zpy pt p) (zpz pt p)) * zleast (zlook b p (zpx pt p) (zpy pt p) (zpz pt p)) ≤ t ∧ zszP (zlook a p (zpx pt p) (zpy pt p) (zpz pt p)) (zlook b p (zpx pt p) (zpy pt p) (zpz pt p)) p = t := by
  have hp := zPr_2 hpr
  obtain ⟨t16, hd⟩ := hk
  refine ⟨?_, ?_, ?_⟩
  · rw [kM_v0 h hpr hfa hn pt, kM_v0 h hpr hfb hm pt]
    refine ⟨fun ht => ?_, fun ⟨z1, z2⟩ => ?_⟩
    · by_cases c : kLam φ p pt n (zq φ a) 0 0 = 0
      · refine ⟨c, Classical.byContradiction fun c2 => ?_⟩
        have := kl_dim_u h.F hd (kw_full h.F (Or.inr c2))
        omega
      · have := kl_dim_u h.F hd (kw_full h.F (Or.inl c))
        omega
    · have := kw_orders h.F (r := 1) (s := 1) (by omega) (fun i j hij => by rw [show i = 0 by omega, show j = 0 by omega]; exact z1) (fun i j hij => by rw [show i = 0 by omega, show j = 0 by omega]; exact z2) (by omega) hd
      omega
  · have ra := zleast_rng (zlook a p (zpx pt p) (zpy pt p) (zpz pt p))
    have rb := zleast_rng (zlook b p (zpx pt p) (zpy pt p) (zpz pt p))
    have le := kw_orders h.F (by omega) (kM_van h ha hn pt) (kM_van h hb hm pt) (by omega) hd
    have e1 : ((zleast (zlook a p (zpx pt p) (zpy pt p) (zpz pt p))).toNat : Int) = zleast (zlook a p (zpx pt p) (zpy pt p) (zpz pt p)) := by omega
    have e2 : ((zleast (zlook b p (zpx pt p) (zpy pt p) (zpz pt p))).toNat : Int) = zleast (zlook b p (zpx pt p) (zpy pt p) (zpz pt p)) := by omega
    rw [← e1, ← e2, ← Int.natCast_mul]
    exact Int.ofNat_le.mpr le
  · obtain ⟨r, hr, e⟩ := ksize h hp.1 (d := zlook a p (zpx pt p) (zpy pt p) (zpz pt p)) (e := zlook b p (zpx pt p) (zpy pt p) (zpz pt p)) (zlook_can (by omega)) (kM_n0 h ha hn pt)
    rw [kLam_at h pt a n hn, kLam_at h pt b m hm] at hr
    have := kl_dim_u h.F hd hr
    omega
theorem kM_zpt {p : Int} (hp : 2 ≤ p) {i : Nat} (h : i < (p * p + p + 1).toNat) : zpt (i : Int) p := by
  have : 0 ≤ p * p := Int.mul_nonneg (by omega) (by omega)
  refine ⟨by omega, ?_⟩
  show (i : Int) < p * p + p + 1
  omega
/-- the property, all of it -/
theorem kM {p : Int} (hpr : zPr p) {a b : Nat → Int} (ha : zcan p a) (hb : zcan p b) (hfa : zflt a) (hfb : zflt b) (ta : 1 ≤ ztop a) (tb : 1 ≤ ztop b ∧ ztop b ≤ 3) (h0 : ztop (zcmP a b p) = 0) : ∃ T : Int → Nat, kM_all p a b T := by
  obtain ⟨K, iK, φ, h⟩ := zKp_ex hpr
  have hp := zPr_2 hpr
  have ta4 := zT_le a
  have pp : 0 ≤ p * p := Int.mul_nonneg (by omega) (by omega)
  obtain ⟨n, hn⟩ : ∃ n : Nat, (n : Int) = ztop a := ⟨(ztop a).toNat, by omega⟩
  obtain ⟨m, hm⟩ : ∃ m : Nat, (m : Int) = ztop b := ⟨(ztop b).toNat, by omega⟩
  obtain ⟨f1, f2⟩ := zT_ed h (fun i j _ => ha _) hn
  obtain ⟨g1, g2⟩ := zT_ed h (fun i j _ => hb _) hm
  have hU := kM_0 h hpr ha hb (by omega) (by omega) h0
  have hU2 := kUW_sw hU
  obtain ⟨T, hT⟩ : ∃ T : Int → Nat, ∀ pt, kPT (kLam φ p pt) n m (zq φ a) (zq φ b) (T pt) ∧ ∀ (st : Int) (o ki : Nat → Int) (sm : Int), (zrun p 2048 st (zld (zlook a p (zpx pt p) (zpy pt p) (zpz pt p))) (zld (zlook b p (zpx pt p) (zpy pt p) (zpz pt p))) o ki sm).1 = sm + T pt := ⟨fun pt => Classical.choose (kM_2 h hpr ha hb hn hm hU pt), fun pt => Classical.choose_spec (kM_2 h hpr ha hb hn hm hU pt)⟩
  obtain ⟨l, hl⟩ : ∃ l : Int → Int → Nat → Nat → K, ∀ s t, (∀ i j, 1 < i + j → l s t i j = 0) ∧ (zpt s p → zpt t p → s ≠ t → kLam φ p s 1 (l s t) 0 0 ≠ 0 ∧ kLam φ p t 1 (l s t) 0 0 = 0) := ⟨fun s t => Classical.choose (kline_ex h hp.1 s t), fun s t => Classical.choose_spec (kline_ex h hp.1 s t)⟩
  refine ⟨T, fun pt hpt => ?_, fun pt => ⟨(kM_1 h hpr ha hb (by omega) (by omega) hU).2 pt, (kM_1 h hpr hb ha (by omega) (by omega) hU2).2 pt⟩, ?_⟩
  · obtain ⟨q1, q2, q3⟩ := kM_3 h hpr ha hb hfa hfb hn hm (hT pt).1
    refine ⟨q1, q2, q3, (hT pt).2, ?_⟩
    obtain ⟨t', ⟨t1, t2⟩, t3⟩ := kM_2 h hpr hb ha hm hn hU2 pt
    have hd := (hT pt).1.2
    have h16 := (hT pt).1.1
    have := kl_dim_u h.F hd (kl_dim_iff t2 (fun v => ⟨kz_Vsw v, kz_Vsw v⟩))
    rw [show T pt = t' by omega]
    exact t3
  · obtain ⟨r1, r2, d1, d2, er⟩ := knear h hp.1 ha hb hn hm
    have nt := kM_nT n (by omega) m (by omega)
    have rk := kp_rank h.F hU (n := n) (m := m) (e := 0) (nu := m) (nw := n) (dd := 24) rfl rfl f1 g1 g1 g2 f1 kz_T17.2.2.symm d1
    have er1 : r1 + n * m = 325 := by omega
    have nm12 := kN_nm12 (n := n) (m := m) (by omega) (by omega)
    have hc : kl_dim (kp_G 325 (nT (25 - n)) (nT (25 - m)) (zq φ a) (zq φ b)) (325 - n * m) := by
      rw [show 325 - n * m = r1 by omega]
      exact d1
    have PT : ∀ pt, kh_ok (kLam φ p pt) ∧ kh_sur (kLam φ p pt) ∧ kPT (kLam φ p pt) n m (zq φ a) (zq φ b) (T pt) := fun pt => ⟨kLam_ok φ p pt, kLam_sur φ p pt, (hT pt).1⟩
    have lnN : kLn (fun i : Nat => kLam φ p (i : Int)) (fun i j : Nat => l (i : Int) (j : Int)) (p * p).toNat := fun q q' hq hq' ne => by
      obtain ⟨l1, l2⟩ := hl (q : Int) (q' : Int)
      obtain ⟨l3, l4⟩ := l2 (kM_zpt hp.1 (by omega)) (kM_zpt hp.1 (by omega)) (by omega)
      exact ⟨l1, l3, l4⟩
    have lnF : kLn (fun i : Nat => kLam φ p (p * p + (i : Int))) (fun i j : Nat => l (p * p + (i : Int)) (p * p + (j : Int))) (p + 1).toNat := fun q q' hq hq' ne => by
      obtain ⟨l1, l2⟩ := hl (p * p + (q : Int)) (p * p + (q' : Int))
      have z : ∀ i : Nat, i < (p + 1).toNat → zpt (p * p + (i : Int)) p := fun i hi => ⟨by omega, show p * p + (i : Int) < p * p + p + 1 by omega⟩
      obtain ⟨l3, l4⟩ := l2 (z q hq) (z q' hq') (by omega)
      exact ⟨l1, l3, l4⟩
    have sN := kB_sum h.F (Λ := fun i : Nat => kLam φ p (i : Int)) (t := fun i : Nat => T (i : Int)) (by omega) (by omega) f1 g1 hc nm12 (p * p).toNat (fun q hq => PT _) lnN
    have sF := kB_sum h.F (Λ := fun i : Nat => kLam φ p (p * p + (i : Int))) (t := fun i : Nat => T (p * p + (i : Int))) (by omega) (by omega) f1 g1 hc nm12 (p + 1).toNat (fun q hq => PT _) lnF
    have nearL := kB_near h.F (Λ := fun i : Nat => kLam φ p (i : Int)) (t := fun i : Nat => T (i : Int)) (s := (p * p).toNat) (by omega) (by omega) (by omega) (by omega) f1 f2 g1 g2 hU d1 d2 sN (fun q hq => PT _) lnN (fun q hq D P => by
      have c : (q : Int) < p * p := by omega
      show kLam φ p (q : Int) D P = kLam φ p (q : Int) 24 P
      rw [kLam_1 c])
    have farL := kB_far h.F (Λ := fun i : Nat => kLam φ p (p * p + (i : Int))) (t := fun i : Nat => T (p * p + (i : Int))) (s := (p + 1).toNat) (by omega) (by omega) f1 g1 d2 (by omega) (fun q hq => PT _) lnF (fun q hq => by
      show kLam φ p (p * p + (q : Int)) 1 (kc_l 0 0 1) 0 0 = 0
      rw [kLam_l h, show zpz (p * p + (q : Int)) p = 0 from if_neg (by omega), h.z]
      grind)
    have en : ztop a * ztop b = ((n * m : Nat) : Int) := by rw [← hn, ← hm, Int.natCast_mul]
    rw [en, er]
    omega
end ZWo
