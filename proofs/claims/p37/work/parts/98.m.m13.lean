section ZWn
theorem kUW_sw {K : Type} [Lean.Grind.CommRing K] {f g : Nat → Nat → K} (h : kUW f g g f (kc_t 1 0 0)) : kUW g f f g (kc_t 1 0 0) := by
  obtain ⟨pu, pw, ph, u0, w0, ef, eg, al⟩ := h
  refine ⟨pw, pu, ph, w0, u0, eg, ef, fun u' w' p1 p2 e => ?_⟩
  obtain ⟨c, pc, e1, e2⟩ := al w' u' p2 p1 e.symm
  exact ⟨c, pc, e2, e1⟩
/-- no COMMON PART: the couple is the two themselves -/
theorem kM_0 {K : Type} [Lean.Grind.CommRing K] {p : Int} {φ : Int → K} (h : zKp K p φ) (hpr : zPr p) {a b : Nat → Int} (ha : zcan p a) (hb : zcan p b) (fa : 0 ≤ ztop a) (fb : 0 ≤ ztop b) (h0 : ztop (zcmP a b p) = 0) : kUW (zq φ a) (zq φ b) (zq φ b) (zq φ a) (kc_t 1 0 0) := by
  have hp := zPr_2 hpr
  have ta4 := zT_le a
  have tb4 := zT_le b
  obtain ⟨n, hn⟩ : ∃ n : Nat, (n : Int) = ztop a := ⟨(ztop a).toNat, by omega⟩
  obtain ⟨m, hm⟩ : ∃ m : Nat, (m : Int) = ztop b := ⟨(ztop b).toNat, by omega⟩
  obtain ⟨u, w, hh, hU⟩ := kUW_ex h ha hb fa fb
  obtain ⟨f1, i, j, hij, f2⟩ := zT_ed h (fun i j _ => ha _) hn
  obtain ⟨g1, i2, j2, hij2, g2⟩ := zT_ed h (fun i j _ => hb _) hm
  obtain ⟨⟨ν, ν0, d4⟩, d5⟩ := kpartC h hp.1 ha hb fa fb hU
  have cc : zcan p (zcmP a b p) := zcom_can (by omega)
  obtain ⟨c1, c2⟩ := zT_ed h (fun i j _ => cc _) (n := 0) (by omega)
  refine kUW_1 h.F hU (fun i j hij => ?_) ⟨5, fun i j hij => zq_flt i j (by omega)⟩ ⟨5, fun i j hij => zq_flt i j (by omega)⟩ ⟨i, j, f2⟩ ⟨i2, j2, g2⟩
  have z := c1 i j hij
  rw [d4] at z
  rcases h.F.dom _ _ z with z | z
  · exact absurd z ν0
  · exact z
/-- .. and the COMMON PART is a number, not 0 anywhere -/
theorem kM_1 {K : Type} [Lean.Grind.CommRing K] {p : Int} {φ : Int → K} (h : zKp K p φ) (hpr : zPr p) {a b : Nat → Int} (ha : zcan p a) (hb : zcan p b) (fa : 0 ≤ ztop a) (fb : 0 ≤ ztop b) (hU : kUW (zq φ a) (zq φ b) (zq φ b) (zq φ a) (kc_t 1 0 0)) : ztop (zcmP a b p) = 0 ∧ ∀ pt, zval (zcmP a b p) (zpx pt p) (zpy pt p) (zpz pt p) p ≠ 0 := by
  have hp := zPr_2 hpr
  obtain ⟨⟨ν, ν0, d4⟩, d5⟩ := kpartC h hp.1 ha hb fa fb hU
  have cc : zcan p (zcmP a b p) := zcom_can (by omega)
  have te : ztop (zcmP a b p) = (0 : Nat) := zT_eq h (fun i j _ => cc _) (n := 0) (fun i j hij => by
    rw [d4]
    show ν * kc_t 1 0 0 i j = 0
    rw [show kc_t (1 : K) 0 0 i j = 0 from if_neg (by omega), ka_mz]) ⟨0, 0, rfl, by
    rw [d4]
    show ν * (if 0 = 0 ∧ 0 = 0 then (1 : K) else 0) ≠ 0
    rw [if_pos ⟨rfl, rfl⟩]
    intro z
    rcases h.F.dom _ _ z with z | z
    · exact ν0 z
    · exact h.F.1 z⟩
  refine ⟨te, fun pt z => ?_⟩
  rw [zlook_0 hpr zcmP_fl (by omega) pt] at z
  have k1 : zq φ (zlook (zcmP a b p) p (zpx pt p) (zpy pt p) (zpz pt p)) 0 0 = φ (zlook (zcmP a b p) p (zpx pt p) (zpy pt p) (zpz pt p) 0) := zq_t (by omega)
  rw [z, h.z, kLam_at h pt _ 0 te.symm, d4] at k1
  have k2 := (kLam_ok φ p pt).2.2.1 0 (fun _ => ν) (fun _ => kc_t 1 0 0) 1
  have k3 : (fun i j => ka_s (fun t => (fun _ => ν) t * (fun _ => kc_t (1 : K) 0 0) t i j) 1) = fun i j => ν * kc_t 1 0 0 i j := funext fun i => funext fun j => ka_za _
  rw [k3] at k2
  rw [k2] at k1
  have k1 : 0 + ν * kLam φ p pt 0 (kc_t 1 0 0) 0 0 = 0 := k1
  rw [ka_za] at k1
  rcases h.F.dom _ _ k1 with q | q
  · exact ν0 q
  · exact kh_one h.F (kLam_ok φ p pt) q
/-- TIMES at one POINT: by RULES, as a colength -/
theorem kM_2 {K : Type} [Lean.Grind.CommRing K] {p : Int} {φ : Int → K} (h : zKp K p φ) (hpr : zPr p) {a b : Nat → Int} (ha : zcan p a) (hb : zcan p b) {n m : Nat} (hn : (n : Int) = ztop a) (hm : (m : Int) = ztop b) (hU : kUW (zq φ a) (zq φ b) (zq φ b) (zq φ a) (kc_t 1 0 0)) (pt : Int) : ∃ t : Nat, kPT (kLam φ p pt) n m (zq φ a) (zq φ b) t ∧ ∀ (st : Int) (o ki : Nat → Int) (sm : Int), (zrun p 2048 st (zld (zlook a p (zpx pt p) (zpy pt p) (zpz pt p))) (zld (zlook b p (zpx pt p) (zpy pt p) (zpz pt p))) o ki sm).1 = sm + t := by
  have hp := zPr_2 hpr
  have ta4 := zT_le a
  have tb4 := zT_le b
  obtain ⟨f1, f2⟩ := zT_ed h (fun i j _ => ha _) hn
  obtain ⟨g1, g2⟩ := zT_ed h (fun i j _ => hb _) hm
  have hΛ := kLam_ok φ p pt
  have bz := kh_bez h.F hΛ hU (e := 0) (nu := m) (nw := n) (fun i j hij => if_neg (by omega)) g1 g2 f1 (by omega) (by omega) (kh_one h.F hΛ)
  rw [Nat.zero_add, Nat.zero_add] at bz
  obtain ⟨r, hr⟩ := kl_dim_ex h.F (V := kz_V (kLam φ p pt n (zq φ a)) (kLam φ p pt m (zq φ b))) (W := 153) (fun v ⟨A, B, e⟩ k hk => by
    rw [e]
    exact kz_w0 hk)
  have r1 : 137 ≤ r := by
    obtain ⟨x, x1, x2⟩ := bz
    obtain ⟨y, y1, y2, y3⟩ := hr
    exact kl_le h.F x1 (fun t ht => y3 _ (x2 t ht))
  have r2 : r ≤ 153 := hr.rk.le h.F
  refine ⟨153 - r, ⟨by omega, by rw [show 153 - (153 - r) = r by omega]; exact hr⟩, fun st o ki sm => ?_⟩
  have hv := (kM_1 h hpr ha hb (by omega) (by omega) hU).2 pt
  have zE := zr_ends hpr ha hb (by omega) (by omega) pt hv
  rw [kw_run h hpr 2048 2048 st _ _ o ki sm r zE (Nat.le_refl _) (zld_can (by omega) (zlook_can (by omega))) (zld_can (by omega) (zlook_can (by omega))) r1 (by rw [kgr_ld h, kgr_ld h, kLam_at h pt a n hn, kLam_at h pt b m hm]; exact hr)]
  omega
theorem kM_nT : ∀ n, n < 5 → ∀ m, m < 5 → 325 + nT (24 + 1 + 0 - n - m) = nT (24 + 1 - n) + nT (24 + 1 - m) + n * m := by decide
theorem kns_congr {t t' : Nat → Nat} : ∀ s, (∀ q, q < s → t q = t' q) → kns t s = kns t' s
  | 0, _ => rfl
  | s + 1, h => by
    show kns t s + t s = kns t' s + t' s
    rw [kns_congr s (fun q hq => h q (by omega)), h s (by omega)]
/-- all of it, for two CURVES without a COMMON PART -/
def kM_all (p : Int) (a b : Nat → Int) (T : Int → Nat) : Prop :=
  (∀ pt, zpt pt p → (0 < T pt ↔ zval a (zpx pt p) (zpy pt p) (zpz pt p) p = 0 ∧ zval b (zpx pt p) (zpy pt p) (zpz pt p) p = 0) ∧ zleast (zlook a p (zpx pt p) (zpy pt p) (zpz pt p)) * zleast (zlook b p (zpx pt p) (zpy pt p) (zpz pt p)) ≤ T pt ∧ zszP (zlook a p (zpx pt p) (zpy pt p) (zpz pt p)) (zlook b p (zpx pt p) (zpy pt p) (zpz pt p)) p = T pt ∧
    (∀ (st : Int) (o ki : Nat → Int) (sm : Int), (zrun p 2048 st (zld (zlook a p (zpx pt p) (zpy pt p) (zpz pt p))) (zld (zlook b p (zpx pt p) (zpy pt p) (zpz pt p))) o ki sm).1 = sm + T pt) ∧
    ∀ (st : Int) (o ki : Nat → Int) (sm : Int), (zrun p 2048 st (zld (zlook b p (zpx pt p) (zpy pt p) (zpz pt p))) (zld (zlook a p (zpx pt p) (zpy pt p) (zpz pt p))) o ki sm).1 = sm + T pt) ∧
  (∀ pt, zval (zcmP a b p) (zpx pt p) (zpy pt p) (zpz pt p) p ≠ 0 ∧ zval (zcmP b a p) (zpx pt p) (zpy pt p) (zpz pt p) p ≠ 0) ∧
  ((kns (fun i => T (i : Nat)) (p * p).toNat : Nat) : Int) ≤ znrP a b p ∧ znrP a b p + ((kns (fun i => T (p * p + (i : Nat))) (p + 1).toNat : Nat) : Int) ≤ ztop a * ztop b
end ZWn
