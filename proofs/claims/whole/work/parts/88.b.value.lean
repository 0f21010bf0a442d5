section ZMd
theorem ka_s_ext {K : Type} [Lean.Grind.CommRing K] {f : Nat → K} {m : Nat} : ∀ n, m ≤ n → (∀ i, m ≤ i → i < n → f i = 0) → ka_s f n = ka_s f m
  | 0, h, _ => by rw [show m = 0 by omega]
  | n + 1, h, h0 => by
    by_cases e : m = n + 1
    · rw [e]
    · show ka_s f n + f n = ka_s f m
      rw [ka_s_ext n (by omega) (fun i a b => h0 i a (by omega)), h0 n (by omega) (by omega)]; grind
theorem ka_0pow {K : Type} [Lean.Grind.CommRing K] {k : Nat} (h : k ≠ 0) : (0 : K) ^ k = 0 := by
  obtain ⟨m, rfl⟩ : ∃ m, k = m + 1 := ⟨k - 1, by omega⟩
  rw [Lean.Grind.Semiring.pow_succ]; grind
/-- VALUE as a sum -/
def zVS {K : Type} [Lean.Grind.CommRing K] (φ : Int → K) (c : Nat → Int) (x y z n : Int) : K := ka_s (fun i => ka_s (fun j => (if z = 1 ∨ (i : Int) + (j : Int) = n then φ (c (5 * i + j)) else 0) * φ y ^ j) (4 - i + 1) * φ x ^ i) (4 + 1)
theorem zK_val {K : Type} [Lean.Grind.CommRing K] {p : Int} {φ : Int → K} (h : zKp K p φ) (c : Nat → Int) (x y z : Int) : φ (zval c x y z p) = zVS φ c x y z (if z = 0 then ztop c else -1) := by
  unfold zval zVS
  obtain ⟨n, hn⟩ : ∃ n, n = (if z = 0 then ztop c else -1) := ⟨_, rfl⟩
  rw [← hn]
  refine zK_hor φ (step := zval_out c x y z n p) 4 h.z (fun i q hi => ?_)
  unfold zval_out
  rw [h.em, h.ad, h.ml]
  have e : φ (zforD (zval_in c y z n p (i : Int)) (4 - (i : Int)) 0 (4 - (i : Int) - (-1)).toNat) = ka_s (fun j => (if z = 1 ∨ (i : Int) + (j : Int) = n then φ (c (5 * i + j)) else 0) * φ y ^ j) (4 - i + 1) := by
    rw [show (4 - (i : Int) - (-1)).toNat = (4 - i) + 1 by omega, show (4 - (i : Int)) = ((4 - i : Nat) : Int) by omega]
    refine zK_hor φ (step := zval_in c y z n p (i : Int)) (4 - i) h.z (fun j q hj => ?_)
    unfold zval_in
    by_cases g : z = 1 ∨ (i : Int) + (j : Int) = n
    · rw [if_pos g, if_pos g, h.ad, h.em, h.ml, show ((i : Int) * 5 + (j : Int)).toNat = 5 * i + j by omega]
    · rw [if_neg g, if_neg g, h.em, h.ml]; grind
  rw [e]
theorem zK_pow {K : Type} [Lean.Grind.CommRing K] {p : Int} {φ : Int → K} (h : zKp K p φ) {S : zS2} (hS : S 0 10 = p) (hp : 0 < p) (v n : Int) : φ (zm_power S v n) = φ v ^ n.toNat := by
  have e : ∀ k : Nat, φ (zfor (zm_power_L5 S v) 0 1 k) = φ v ^ k := fun k => by
    induction k with
    | zero => rw [Lean.Grind.Semiring.pow_zero]; exact h.o
    | succ k ih =>
      show φ (Int.tmod (zfor (zm_power_L5 S v) 0 1 k * v) (S 0 10)) = _
      rw [hS, h.tm, h.ml, ih, Lean.Grind.Semiring.pow_succ]
  show φ (zm_modulo S (zfor (zm_power_L5 S v) 0 1 ((n - 1) + 1 - 0).toNat)) = _
  rw [zB_mod hS hp, h.em, e, show (n - 1) + 1 - 0 = n by omega]
theorem zK_mval {K : Type} [Lean.Grind.CommRing K] {p : Int} {φ : Int → K} (h : zKp K p φ) {S : zS2} (hS : S 0 10 = p) (hp : 0 < p) (g pt : Int) (n : Nat) : φ (zm_valueOf S g n pt) = ka_s (fun i => ka_s (fun j => φ (zm_cell S g i j) * φ (zm_xOf S pt) ^ i * φ (zm_yOf S pt) ^ j * φ (zm_valueOf_J5 (zm_isNear S pt)) ^ (n - i - j)) (n - i + 1)) (n + 1) := by
  show φ (zm_modulo S (zfor (zm_valueOf_L21 S g n pt (zm_valueOf_J5 (zm_isNear S pt))) 0 0 ((n : Int) + 1 - 0).toNat)) = _
  rw [zB_mod hS hp, h.em, show ((n : Int) + 1 - 0).toNat = n + 1 by omega]
  rw [zK_acc φ (F := fun i => ka_s (fun j => φ (zm_cell S g i j) * φ (zm_xOf S pt) ^ i * φ (zm_yOf S pt) ^ j * φ (zm_valueOf_J5 (zm_isNear S pt)) ^ (n - i - j)) (n - i + 1)) (n + 1) (fun i x hi => ?_), h.z]
  · grind
  show φ (zfor (zm_valueOf_L30 S g n pt (zm_valueOf_J5 (zm_isNear S pt)) (0 + (i : Int))) 0 x (((n : Int) - (0 + (i : Int))) + 1 - 0).toNat) = _
  rw [show (((n : Int) - (0 + (i : Int))) + 1 - 0).toNat = n - i + 1 by omega, show 0 + (i : Int) = (i : Int) by omega]
  refine zK_acc φ (n - i + 1) (fun j x hj => ?_)
  show φ (x + ((Int.tmod ((Int.tmod (zm_cell S g i (0 + (j : Int)) * zm_power S (zm_xOf S pt) i) (S 0 10)) * zm_power S (zm_yOf S pt) (0 + (j : Int))) (S 0 10)) * zm_power S (zm_valueOf_J5 (zm_isNear S pt)) (((n : Int) - i) - (0 + (j : Int))))) = _
  rw [show 0 + (j : Int) = (j : Int) by omega, h.ad, h.ml, hS, h.tm, h.ml, h.tm, h.ml, zK_pow h hS hp, zK_pow h hS hp, zK_pow h hS hp, show ((n : Int) - i - j).toNat = n - i - j by omega, Int.toNat_natCast, Int.toNat_natCast]
theorem zm_val_rng {S : zS2} {p : Int} (hS : S 0 10 = p) (hp : 0 < p) (g n pt : Int) : 0 ≤ zm_valueOf S g n pt ∧ zm_valueOf S g n pt < p := by
  show 0 ≤ zm_modulo S (zfor (zm_valueOf_L21 S g n pt (zm_valueOf_J5 (zm_isNear S pt))) 0 0 (n + 1 - 0).toNat) ∧ zm_modulo S (zfor (zm_valueOf_L21 S g n pt (zm_valueOf_J5 (zm_isNear S pt))) 0 0 (n + 1 - 0).toNat) < p
  rw [zB_mod hS hp]
  exact ⟨Int.emod_nonneg _ (by omega), Int.emod_lt_of_pos _ hp⟩
/-- VALUE of a grid that holds c, at a POINT -/
theorem zB_valG {S : zS2} {p : Int} (hS : S 0 10 = p) (hpr : zPr p) {g pt : Int} {c : Nat → Int} (hc : ∀ i j : Nat, i + j ≤ 4 → zm_cell S g i j = c (5 * i + j)) (ht : 0 ≤ ztop c) (hpt : 0 ≤ pt) : zm_valueOf S g (ztop c) pt = zval c (zpx pt p) (zpy pt p) (zpz pt p) p := by
  obtain ⟨K, iK, φ, h⟩ := zKp_ex hpr
  have hp := zPr_2 hpr
  obtain ⟨n, hn⟩ : ∃ n : Nat, (n : Int) = ztop c := ⟨(ztop c).toNat, by omega⟩
  have hn4 : n ≤ 4 := by have := zT_le c; omega
  refine h.ij (zm_val_rng hS (by omega) _ _ _) (zval_rng (by omega)) ?_
  rw [zK_val h, ← hn, zK_mval h hS (by omega), zB_xOf hS hpt, zB_yOf hS hpt, zB_isNear hS]
  unfold zVS
  rw [ka_s_ext (m := n + 1) (4 + 1) (by omega) (fun i h1 h2 => by
    rw [ka_s_zero _ (fun j hj => ?_)]
    · grind
    · have z := zT_z (c := c) (i := i) (j := j) (by omega) (by omega)
      rw [z, h.z]; split <;> grind)]
  refine ka_s_congr _ (fun i hi => ?_)
  rw [ka_s_ext (m := n - i + 1) (4 - i + 1) (by omega) (fun j h1 h2 => by
    have z := zT_z (c := c) (i := i) (j := j) (by omega) (by omega)
    rw [z, h.z]; split <;> grind), ← ka_s_mulr]
  refine ka_s_congr _ (fun j hj => ?_)
  rw [hc i j (by omega)]
  rcases zpz_01 pt p with z | z
  · rw [z]
    show _ * φ (zm_valueOf_J5 0) ^ (n - i - j) = _
    rw [show zm_valueOf_J5 0 = 0 from if_pos rfl, h.z]
    by_cases e : n - i - j = 0
    · rw [if_pos (Or.inr (by rw [if_pos rfl]; omega)), e, Lean.Grind.Semiring.pow_zero]; grind
    · rw [if_neg (by rw [if_pos rfl]; omega), ka_0pow e]; grind
  · rw [z]
    show _ * φ (zm_valueOf_J5 1) ^ (n - i - j) = _
    rw [show zm_valueOf_J5 1 = 1 from if_neg (by decide), h.o, Lean.Grind.Semiring.one_pow, if_pos (Or.inl rfl)]; grind
theorem zB_cellN {M : zCt} {S : zS2} (h : zBs M S) {c : Int} (hc : 0 ≤ c ∧ c < M.1 0 4) {i j : Nat} (hij : i + j ≤ 4) : zm_cell S c i j = M.2.1 c.toNat (5 * i + j) := by
  rw [zB_cell h hc (by omega) (by omega), show ((i : Int) * 5 + (j : Int)).toNat = 5 * i + j by omega]
theorem zB_val {M : zCt} {S : zS2} (hB : zBs M S) (hX : zBx M) {cv pt : Int} (hc : 0 ≤ cv ∧ cv < M.1 0 4) (hpt : 0 ≤ pt) : zm_valueAt S cv pt = zval (M.2.1 cv.toNat) (zpx pt (M.1 0 3)) (zpy pt (M.1 0 3)) (zpz pt (M.1 0 3)) (M.1 0 3) := by
  show zm_valueOf S cv (zm_degreeOf S cv) pt = _
  rw [zB_top hB hc]
  have t := (hB.2.2 cv.toNat (by omega)).2.2
  exact zB_valG hB.1 hX.1 (fun i j hij => zB_cellN hB hc hij) (by omega) hpt
/-- the same bond for whatever the tools hold -/
theorem zBs_q {M N : zCt} {S U : zS2} (h : zBs M S) (hn : M.1 0 4 ≤ 6) (hM : zVE N M) (hS : zFm S U) : zBs N U :=
  h.same hM.p hM.n (funext fun i => hM.2 3 i (by omega) (by omega)) (by rw [hM.1]) hS.p hS.n (fun i hi => hS.c (by omega)) (fun i _ => hS 5 i (by omega) (by omega) (by omega)) hn
theorem zc_find {M : zCt} (hC : zCI M) {cv : Int} : (0 ≤ cv ∧ cv < M.1 0 4 ∧ cv < 6) ↔ 0 ≤ cv ∧ cv < M.1 0 4 := by have := hC.cn; omega
theorem zfact_8 (L : Nat) : zlK_8 zBm L := by
  intro i M S a1 a2 _ _ hR hC hI _ _
  have hB := hR.1.2.2.1
  have hp := hC.p
  unfold zc_value zm_value
  rw [zB_isCurve, hB.2.1]
  by_cases h : 0 ≤ a1 ∧ a1 < M.1 0 4
  · rw [if_pos ((zc_find hC).2 h), if_pos h, zB_isPoint hB.1]
    by_cases hq : zpt a2 (M.1 0 3)
    · rw [bI_t hq]
      obtain ⟨⟨g1, g2, g3⟩, _⟩ := zgo_rng (M := M) hp (n := a2) (by rw [bI_t hq]; decide)
      refine ⟨?_, zBm_q hR hC zv_go zFm.rf⟩
      show zval (M.2.1 a1.toNat) ((zw_go M a2 (M.1 0 3)).1 0 10) ((zw_go M a2 (M.1 0 3)).1 0 11) ((zw_go M a2 (M.1 0 3)).1 0 12) (M.1 0 3) = zm_valueAt S a1 a2
      rw [g1, g2, g3, zB_val hB hR.2 h hq.1]
    · rw [bI_f hq]
      exact ⟨rfl, zBm_q hR hC zv_go zFm.rf⟩
  · rw [if_neg (fun q => h ((zc_find hC).1 q)), if_neg h]
    exact ⟨rfl, zBm_q hR hC zVE.rf zFm.rf⟩
end ZMd
section ZMe
/-- is a POINT ON a CURVE -/
theorem zc_trait0 {M N : zCt} (hC : zCI M) (hM : zVE N M) {cv q : Int} (hq : zpt q (M.1 0 3)) : zc_hasTrait N cv q 0 = (if zval (M.2.1 cv.toNat) (zpx q (M.1 0 3)) (zpy q (M.1 0 3)) (zpz q (M.1 0 3)) (M.1 0 3) = 0 then 1 else 0, zw_go N q (M.1 0 3)) := by
  have hp := hC.p
  have hq2 : zpt q (N.1 0 3) := by rw [hM.p]; exact hq
  obtain ⟨⟨g1, g2, g3⟩, _⟩ := zgo_rng (M := N) (p := N.1 0 3) (by rw [hM.p]; exact hp) (n := q) (by rw [bI_t hq2]; decide)
  have e2 : N.2.1 = M.2.1 := by rw [hM.1]
  unfold zc_hasTrait
  rw [bI_t hq2]
  show (if zval (N.2.1 cv.toNat) ((zw_go N q (N.1 0 3)).1 0 10) ((zw_go N q (N.1 0 3)).1 0 11) ((zw_go N q (N.1 0 3)).1 0 12) (N.1 0 3) = 0 then (1, zw_go N q (N.1 0 3)) else (0, zw_go N q (N.1 0 3))) = _
  rw [g1, g2, g3, e2, hM.p]
  split <;> rfl
theorem zpt_many {q p : Int} (h0 : 0 ≤ q) (h : ¬ zmany p ≤ q) : zpt q p := ⟨h0, by omega⟩
theorem zc_point_W {M : zCt} {S : zS2} (hB : zBs M S) (hX : zBx M) (hC : zCI M) {cv k : Int} (hc : 0 ≤ cv ∧ cv < M.1 0 4) : ∀ (fu : Nat) (n q : Int) (N : zCt), zVE N M → 0 ≤ q →
    (∃ r N', zc_choose_W40 cv k 0 (zmany (M.1 0 3)) fu n q N = .inl (r, N') ∧ zVE N' M ∧ zm_point_W20 S cv k fu n q = .inl r) ∨ ∃ n' q' N', zc_choose_W40 cv k 0 (zmany (M.1 0 3)) fu n q N = .inr (n', q', N') ∧ zVE N' M ∧ zm_point_W20 S cv k fu n q = .inr (n', q')
  | 0, n, q, N, hN, _ => Or.inr ⟨n, q, N, rfl, hN, rfl⟩
  | fu + 1, n, q, N, hN, hq => by
    have ep : zm_points S = zmany (M.1 0 3) := zB_points hB.1
    by_cases h1 : zmany (M.1 0 3) ≤ q
    · exact Or.inr ⟨n, q, N, by simp only [zc_choose_W40]; rw [if_pos h1], hN, by
        simp only [zm_point_W20]
        show (if zm_points S ≤ q then _ else _) = _
        rw [ep, if_pos h1]⟩
    · have hq2 := zpt_many hq h1
      have ht := zc_trait0 hC hN (cv := cv) hq2
      have hv := zB_val hB hX hc hq (pt := q)
      have hN2 : zVE (zw_go N q (M.1 0 3)) M := zv_go.tr hN
      have ec : zc_choose_W40 cv k 0 (zmany (M.1 0 3)) (fu + 1) n q N = (if (zc_hasTrait N cv q 0).1 = 0 then zc_choose_W40 cv k 0 (zmany (M.1 0 3)) fu n (q + 1) (zc_hasTrait N cv q 0).2 else (if n = k then .inl (q, (zc_hasTrait N cv q 0).2) else zc_choose_W40 cv k 0 (zmany (M.1 0 3)) fu (n + 1) (q + 1) (zc_hasTrait N cv q 0).2)) := by
        simp only [zc_choose_W40]
        rw [if_neg h1]
        rfl
      have em : zm_point_W20 S cv k (fu + 1) n q = (if zm_valueAt S cv q = 0 then (if n = k then .inl q else zm_point_W20 S cv k fu (n + 1) (q + 1)) else zm_point_W20 S cv k fu n (q + 1)) := by
        simp only [zm_point_W20]
        show (if zm_points S ≤ q then _ else _) = _
        rw [ep, if_neg h1]
        rfl
      rw [ec, em, ht, hv]
      by_cases e : zval (M.2.1 cv.toNat) (zpx q (M.1 0 3)) (zpy q (M.1 0 3)) (zpz q (M.1 0 3)) (M.1 0 3) = 0
      · rw [if_pos e, if_pos e, if_neg (show ¬ ((1 : Int), zw_go N q (M.1 0 3)).1 = 0 from by show ¬ (1 : Int) = 0; decide)]
        by_cases e2 : n = k
        · rw [if_pos e2, if_pos e2]
          exact Or.inl ⟨q, _, rfl, hN2, rfl⟩
        · rw [if_neg e2, if_neg e2]
          exact zc_point_W hB hX hC hc fu (n + 1) (q + 1) _ hN2 (by omega)
      · rw [if_neg e, if_neg e, if_pos (show ((0 : Int), zw_go N q (M.1 0 3)).1 = 0 from rfl)]
        exact zc_point_W hB hX hC hc fu n (q + 1) _ hN2 (by omega)
theorem zc_choose_t {M : zCt} (hC : zCI M) {cv k tr : Int} (hc : 0 ≤ cv ∧ cv < M.1 0 4) (hk : -1 ≤ k) : zc_choose M cv k tr = zsum (zc_choose_W40 cv k tr (zmany (M.1 0 3)) 995 0 0 M) (fun r40 => r40) (fun q40 => (fun (n40 : Int) (q40 : Int) (M40 : zCt) => (if k = -1 then (n40, M40) else (-1, M40))) q40.1 q40.2.1 q40.2.2) := by
  unfold zc_choose
  rw [if_pos ((zc_find hC).2 hc), if_pos hk]
  rfl
theorem zc_choose_f {M : zCt} (hC : zCI M) {cv k tr : Int} (h : ¬ ((0 ≤ cv ∧ cv < M.1 0 4) ∧ -1 ≤ k)) : zc_choose M cv k tr = (-1, M) := by
  unfold zc_choose
  by_cases hc : 0 ≤ cv ∧ cv < M.1 0 4
  · rw [if_pos ((zc_find hC).2 hc), if_neg (fun q => h ⟨hc, q⟩)]
  · rw [if_neg (fun q => hc ((zc_find hC).1 q))]
theorem zfact_9 (L : Nat) : zlK_9 zBm L := by
  intro i M S a1 a2 _ _ hR hC hI _ _
  have hB := hR.1.2.2.1
  show (zc_choose M a1 a2 0).1 = zm_point S a1 a2 ∧ zBm (i + 8) (zc_choose M a1 a2 0).2 S
  by_cases h : (0 ≤ a1 ∧ a1 < M.1 0 4) ∧ -1 ≤ a2
  · have em : zm_point S a1 a2 = zsum (zm_point_W20 S a1 a2 995 0 0) (fun r20 => r20) (fun q20 => (fun (n20 : Int) (p20 : Int) => (if a2 = -1 then n20 else -1)) q20.1 q20.2) := by
      unfold zm_point
      rw [zB_isCurve, hB.2.1, if_pos h.1]
      show (if -1 ≤ a2 then _ else -1) = _
      rw [if_pos h.2]
    rw [zc_choose_t hC h.1 h.2, em]
    rcases zc_point_W hB hR.2 hC (k := a2) h.1 995 0 0 M zVE.rf (by decide) with ⟨r, N, e1, e2, e3⟩ | ⟨n, q, N, e1, e2, e3⟩
    · rw [e1, e3]
      exact ⟨rfl, zBm_q hR hC e2 zFm.rf⟩
    · rw [e1, e3]
      show (if a2 = -1 then (n, N) else (-1, N)).1 = (if a2 = -1 then n else -1) ∧ zBm (i + 8) (if a2 = -1 then (n, N) else (-1, N)).2 S
      by_cases e : a2 = -1
      · rw [if_pos e, if_pos e]; exact ⟨rfl, zBm_q hR hC e2 zFm.rf⟩
      · rw [if_neg e, if_neg e]; exact ⟨rfl, zBm_q hR hC e2 zFm.rf⟩
  · have em : zm_point S a1 a2 = -1 := by
      unfold zm_point
      rw [zB_isCurve, hB.2.1]
      by_cases hc : 0 ≤ a1 ∧ a1 < M.1 0 4
      · rw [if_pos hc]
        show (if -1 ≤ a2 then _ else -1) = _
        rw [if_neg (fun q => h ⟨hc, q⟩)]
      · rw [if_neg hc]; rfl
    rw [zc_choose_f hC h, em]
    exact ⟨rfl, zBm_q hR hC zVE.rf zFm.rf⟩
end ZMe
