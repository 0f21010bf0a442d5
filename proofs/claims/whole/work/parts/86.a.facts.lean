section ZBb
theorem zB_fin {i : Int} {M : zCt} {S : zS2} (h : zBl i M S) : (M.1 0 2, M).1 = (S 0 1, S).1 ∧ zBl (i + 8) (M.1 0 2, M).2 (S 0 1, S).2 := ⟨h.1.1.symm, ⟨h.1, h.2.1, h.2.2.1, h.2.2.2⟩⟩
theorem zfact_0 (L : Nat) : zlK_0 zBl L := by
  intro i M S a1 a2 a3 a4 a5 _ _ hR hC hI _ _ _ _ _
  have hn := hC.tp.1
  by_cases h : M.1 0 2 ≤ 980
  · have e1 : zc_feed M a1 a2 a3 a4 a5 = ((zw_append (zw_append (zw_append (zw_append (zw_append M a1) a2) a3) a4) a5).1 0 2, zw_append (zw_append (zw_append (zw_append (zw_append M a1) a2) a3) a4) a5) := by
      unfold zc_feed
      rw [if_pos h]
      rfl
    have e2 : zm_feed S a1 a2 a3 a4 a5 = ((zm_lays (zm_lays (zm_lays (zm_lays (zm_lays S a1) a2) a3) a4) a5) 0 1, zm_lays (zm_lays (zm_lays (zm_lays (zm_lays S a1) a2) a3) a4) a5) := by
      unfold zm_feed
      rw [if_pos (by rw [hR.1.1]; omega)]
      rfl
    rw [e1, e2]
    have l0 := (zw_append_4 (x := a1) hn (by omega)).1
    have c1 := zi_append (x := a1) hC
    have r1 := zBl_app (x := a1) hR hC (by omega)
    have l1 := (zw_append_4 (x := a2) c1.tp.1 (by omega)).1
    have c2 := zi_append (x := a2) c1
    have r2 := zBl_app (x := a2) r1 c1 (by omega)
    have l2 := (zw_append_4 (x := a3) c2.tp.1 (by omega)).1
    have c3 := zi_append (x := a3) c2
    have r3 := zBl_app (x := a3) r2 c2 (by omega)
    have l3 := (zw_append_4 (x := a4) c3.tp.1 (by omega)).1
    have c4 := zi_append (x := a4) c3
    have r4 := zBl_app (x := a4) r3 c3 (by omega)
    have r5 := zBl_app (x := a5) r4 c4 (by omega)
    exact zB_fin r5
  · have e1 : zc_feed M a1 a2 a3 a4 a5 = (-1, zw_ref M 0 ((M.1 1 0) + 1)) := by
      unfold zc_feed
      exact zlet_e (if_neg h) (zif_t rfl (zlet_e (zB_refuse (by decide)) rfl))
    have e2 : zm_feed S a1 a2 a3 a4 a5 = (-1, za S 2 0 ((S 2 0) + 1)) := by
      unfold zm_feed
      rw [if_neg (by rw [hR.1.1]; omega)]
      exact zlet_e (show zm_refuses S 0 = (-1, za S 2 0 ((S 2 0) + 1)) from rfl) rfl
    rw [e1, e2]
    exact ⟨rfl, zBl_ref (i := i + 8) hR hC (by decide)⟩
theorem zfact_3 (L : Nat) : zlK_3 zBl L := by
  intro i M S a1 _ _ hR hC hI _
  unfold zc_fault zm_fault
  by_cases h : a1 = 0
  · rw [if_pos h, if_pos h]; exact ⟨hR.2.1.1.1.symm, hR⟩
  rw [if_neg h, if_neg h]
  by_cases h1 : a1 = 1
  · rw [if_pos h1, if_pos h1]; exact ⟨hR.2.1.1.2.symm, hR⟩
  rw [if_neg h1, if_neg h1]
  exact ⟨rfl, hR⟩
theorem zfact_4 (L : Nat) : zlK_4 zBl L := by
  intro i M S a1 _ _ hR hC hI _
  unfold zc_has zm_has
  by_cases h : a1 = 0
  · rw [if_pos h, if_pos h]; exact ⟨hR.2.2.1.1.symm, hR⟩
  rw [if_neg h, if_neg h]
  by_cases h1 : a1 = 1
  · rw [if_pos h1, if_pos h1]; exact ⟨hR.2.2.1.2.1.symm, hR⟩
  rw [if_neg h1, if_neg h1]
  by_cases h2 : a1 = 2
  · rw [if_pos h2, if_pos h2]
    refine ⟨?_, hR⟩
    show zmany (M.1 0 3) = zm_points S
    unfold zmany zm_points
    rw [hR.2.2.1.1]
  rw [if_neg h2, if_neg h2]
  by_cases h3 : a1 = 3
  · rw [if_pos h3, if_pos h3]; exact ⟨hR.2.2.2.1.symm, hR⟩
  rw [if_neg h3, if_neg h3]
  exact ⟨rfl, hR⟩
theorem zB_isIn {v lo hi : Int} : zm_isIn v lo hi = if lo ≤ v ∧ v ≤ hi then 1 else 0 := by
  unfold zm_isIn
  by_cases h : v < lo
  · rw [if_pos h, if_neg (by omega)]
  rw [if_neg h]
  by_cases h2 : hi < v
  · rw [if_pos h2, if_neg (by omega)]
  · rw [if_neg h2, if_pos (by omega)]
theorem zfact_33 (L : Nat) : zlK_33 zBl L := by
  intro i M S a1 _ _ hR hC hI _
  unfold zc_status zm_status
  rw [zB_isIn]
  by_cases h : a1 < 0
  · rw [if_pos h, if_neg (by omega)]; exact ⟨rfl, hR⟩
  rw [if_neg h]
  by_cases h1 : a1 < 5
  · rw [if_pos h1, if_pos (by omega)]
    exact ⟨(hR.2.1.2 a1.toNat (by omega)).symm, hR⟩
  rw [if_neg h1, if_neg (by omega)]
  exact ⟨rfl, hR⟩
theorem zfact_1 (L : Nat) : zlK_1 zBl L := by
  intro i M S a1 _ _ hR hC hI _
  have hn := hC.cn
  have hno : zBl (i + 8) (zw_ref M 0 ((M.1 1 0) + 1)) (za S 2 0 ((S 2 0) + 1)) := zBl_ref (i := i + 8) hR hC (by decide)
  unfold zc_end zm_end
  by_cases h : a1 < 0
  · rw [if_pos h, if_pos h, zB_refuse (by decide)]; exact ⟨rfl, hno⟩
  rw [if_neg h, if_neg h]
  by_cases h1 : a1 ≤ M.1 0 2
  · rw [if_pos h1, if_pos (by rw [hR.1.1]; exact h1)]
    refine ⟨rfl, ⟨?_, fun q hq => ?_⟩, ⟨⟨hR.2.1.1.1, hR.2.1.1.2⟩, fun q hq => hR.2.1.2 q hq⟩, hR.2.2.1.same rfl rfl rfl rfl rfl rfl (fun _ _ => rfl) (fun _ _ => rfl) hn.2, hR.2.2.2.same rfl rfl rfl rfl rfl rfl rfl rfl (fun _ => rfl)⟩
    · rfl
    · exact hR.1.2 q (by have hq : (q : Int) < a1 := hq; omega)
  · rw [if_neg h1, if_neg (by rw [hR.1.1]; exact h1), zB_refuse (by decide)]
    exact ⟨rfl, hno⟩
end ZBb
section ZBc
theorem zB_isCurve {S : zS2} {cv : Int} : zm_isCurve S cv = if 0 ≤ cv ∧ cv < S 0 13 then 1 else 0 := by
  unfold zm_isCurve
  show zm_isIn cv 0 (S 0 13 - 1) = _
  rw [zB_isIn]
  by_cases h : 0 ≤ cv ∧ cv < S 0 13
  · rw [if_pos h, if_pos (by omega)]
  · rw [if_neg h, if_neg (by omega)]
theorem zfact_5 (L : Nat) : zlK_5 zBl L := by
  intro i M S a1 a2 _ _ hR hC hI _ _
  have hn := hC.cn
  have hR2 : zBl (i + 8) M S := ⟨hR.1, hR.2.1, hR.2.2.1, hR.2.2.2⟩
  refine ⟨?_, hR2⟩
  show zletter (M.1 0 4) (M.1 3) a1 a2 = zm_letter S a1 a2
  unfold zletter zm_letter
  rw [zB_isCurve, zB_isIn, hR.2.2.1.2.1]
  by_cases h : 0 ≤ a1 ∧ a1 < M.1 0 4
  · rw [if_pos h]
    by_cases h2 : 0 ≤ a2 ∧ a2 ≤ 5
    · rw [if_pos (show 0 ≤ a1 ∧ a1 < M.1 0 4 ∧ a1 < 6 ∧ 0 ≤ a2 ∧ a2 < 6 by omega), if_pos h2]
      have q := (hR.2.2.1.2.2 a1.toNat (by omega)).2.1 a2.toNat (by omega)
      rw [show (6 * a1.toNat + a2.toNat : Nat) = (a1 * 6 + a2).toNat by omega, show (5 * (a2.toNat : Int)) = 5 * a2 by omega] at q
      exact q.symm
    · rw [if_neg (show ¬ (0 ≤ a1 ∧ a1 < M.1 0 4 ∧ a1 < 6 ∧ 0 ≤ a2 ∧ a2 < 6) by omega), if_neg h2]
      rfl
  · rw [if_neg (show ¬ (0 ≤ a1 ∧ a1 < M.1 0 4 ∧ a1 < 6 ∧ 0 ≤ a2 ∧ a2 < 6) by omega), if_neg h]
    rfl
theorem zB_cell {M : zCt} {S : zS2} (h : zBs M S) {c i j : Int} (hc : 0 ≤ c ∧ c < M.1 0 4) (hi : 0 ≤ i ∧ i ≤ 4) (hj : 0 ≤ j ∧ j ≤ 4) : zm_cell S c i j = M.2.1 c.toNat (i * 5 + j).toNat := by
  have q := (h.2.2 c.toNat (by omega)).1 (i * 5 + j).toNat (by omega)
  unfold zm_cell
  rw [← q]
  congr 1
  omega
theorem zB_top {M : zCt} {S : zS2} (h : zBs M S) {c : Int} (hc : 0 ≤ c ∧ c < M.1 0 4) : zm_degreeOf S c = ztop (M.2.1 c.toNat) := by
  unfold zm_degreeOf
  rw [ztop_eq]
  show zfor (zm_degreeOf_L4 S c) 0 (-1) (4 + 1 - 0 : Int).toNat = _
  refine zfor_congr _ (fun i n h1 h2 => ?_)
  have h3 : i < 5 := h2
  show zfor (zm_degreeOf_L12 S c i) 0 n ((4 - i) + 1 - 0).toNat = ztop_out (M.2.1 c.toNat) i n
  unfold ztop_out
  refine zfor_congr _ (fun j t h4 h5 => ?_)
  have h6 : j < 5 - i := by omega
  show (if zm_cell S c i j = 0 then t else (if i + j ≤ t then t else i + j)) = ztop_in (M.2.1 c.toNat) i j t
  rw [zB_cell h hc (by omega) (by omega)]
  unfold ztop_in
  by_cases e : M.2.1 c.toNat (i * 5 + j).toNat = 0
  · rw [if_pos e]
    simp [e]
  · rw [if_neg e]
    by_cases e2 : i + j ≤ t
    · rw [if_pos e2]; simp [e]; omega
    · rw [if_neg e2]; simp [e]; omega
theorem zfact_7 (L : Nat) : zlK_7 zBl L := by
  intro i M S a1 _ _ hR hC hI _
  have hn := hC.cn
  have hR2 : zBl (i + 8) M S := ⟨hR.1, hR.2.1, hR.2.2.1, hR.2.2.2⟩
  unfold zc_degree zm_degree
  rw [zB_isCurve, hR.2.2.1.2.1]
  by_cases h : 0 ≤ a1 ∧ a1 < M.1 0 4
  · rw [if_pos (show 0 ≤ a1 ∧ a1 < M.1 0 4 ∧ a1 < 6 by omega), if_pos h]
    refine ⟨?_, hR2⟩
    exact (zB_top hR.2.2.1 h).symm
  · rw [if_neg (show ¬ (0 ≤ a1 ∧ a1 < M.1 0 4 ∧ a1 < 6) by omega), if_neg h]
    exact ⟨rfl, hR2⟩
theorem zB_isTerm {i j : Int} : zm_isTerm i j = bI (zfits i j) := by
  unfold zm_isTerm
  by_cases h : zfits i j
  · rw [bI_t h]
    unfold zfits at h
    rw [if_neg (by omega), if_neg (by omega), if_neg (by omega), if_neg (by omega)]
  · rw [bI_f h]
    unfold zfits at h
    by_cases h1 : i < 0
    · rw [if_pos h1]
    rw [if_neg h1]
    by_cases h2 : j < 0
    · rw [if_pos h2]
    rw [if_neg h2]
    by_cases h3 : 4 < i
    · rw [if_pos h3]
    rw [if_neg h3, if_pos (by omega)]
theorem zfact_6 (L : Nat) : zlK_6 zBl L := by
  intro i M S a1 a2 a3 _ _ hR hC hI _ _ _
  have hn := hC.cn
  have hR2 : zBl (i + 8) M S := ⟨hR.1, hR.2.1, hR.2.2.1, hR.2.2.2⟩
  unfold zc_term zm_term
  rw [zB_isCurve, hR.2.2.1.2.1, zB_isTerm]
  by_cases h : 0 ≤ a1 ∧ a1 < M.1 0 4
  · rw [if_pos (show 0 ≤ a1 ∧ a1 < M.1 0 4 ∧ a1 < 6 by omega), if_pos h]
    by_cases hf : zfits a2 a3
    · rw [bI_t hf]
      refine ⟨?_, hR2⟩
      show zat (M.2.1 a1.toNat) a2 a3 = zm_cell S a1 a2 a3
      rw [zat_t hf]
      unfold zfits at hf
      rw [zB_cell hR.2.2.1 h (by omega) (by omega)]
    · rw [bI_f hf]
      exact ⟨rfl, hR2⟩
  · rw [if_neg (show ¬ (0 ≤ a1 ∧ a1 < M.1 0 4 ∧ a1 < 6) by omega), if_neg h]
    exact ⟨rfl, hR2⟩
end ZBc
section ZBd
theorem zBl0 : zBl 0 zM0 zS0 := by
  have z0 : ∀ k : Nat, ¬ (k : Int) < 0 := fun k => by omega
  exact ⟨⟨rfl, fun k hk => absurd hk (z0 k)⟩, ⟨⟨rfl, rfl⟩, fun k _ => rfl⟩, ⟨rfl, rfl, fun c hc => absurd hc (z0 c)⟩, ⟨rfl, fun j hj => absurd hj (z0 j)⟩⟩
theorem zLwd_B (L : Nat) : zLwd zBl L := fun i M S _ _ h => ⟨h.1, h.2.1, h.2.2.1, h.2.2.2⟩
theorem zB_points {S : zS2} {p : Int} (h : S 0 10 = p) : zm_points S = zmany p := by
  unfold zm_points zmany
  rw [h]
theorem zB_isPoint {S : zS2} {pt p : Int} (h : S 0 10 = p) : zm_isPoint S pt = bI (zpt pt p) := by
  unfold zm_isPoint
  show zm_isIn pt 0 (zm_points S - 1) = _
  rw [zB_isIn, zB_points h]
  by_cases q : zpt pt p
  · rw [bI_t q]
    unfold zpt at q
    rw [if_pos (by omega)]
  · rw [bI_f q]
    unfold zpt at q
    rw [if_neg (by omega)]
theorem zB_isNear {S : zS2} {pt p : Int} (h : S 0 10 = p) : zm_isNear S pt = zpz pt p := by
  unfold zm_isNear zpz
  rw [h]
  by_cases q : p * p ≤ pt
  · rw [if_pos q, if_neg (by omega)]
  · rw [if_neg q, if_pos (by omega)]
theorem zB_xOf {S : zS2} {pt p : Int} (h : S 0 10 = p) (hp : 0 ≤ pt) : zm_xOf S pt = zpx pt p := by
  unfold zm_xOf
  show (if zm_isNear S pt = 0 then (if pt = zm_points S - 1 then 0 else 1) else Int.tdiv pt (S 0 10)) = _
  rw [zB_isNear h, zB_points h, h]
  unfold zpz zpx zmany
  by_cases q : pt < p * p
  · rw [if_pos q, if_pos q, if_neg (by decide)]
    exact Int.tdiv_eq_ediv_of_nonneg hp
  · rw [if_neg q, if_neg q, if_pos rfl]
    by_cases e : pt = p * p + p
    · rw [if_pos e, if_pos (by omega)]
    · rw [if_neg e, if_neg (by omega)]
theorem zB_yOf {S : zS2} {pt p : Int} (h : S 0 10 = p) (hp : 0 ≤ pt) : zm_yOf S pt = zpy pt p := by
  unfold zm_yOf
  show (if zm_isNear S pt = 0 then (if pt = zm_points S - 1 then 1 else pt - ((S 0 10) * (S 0 10))) else Int.tmod pt (S 0 10)) = _
  rw [zB_isNear h, zB_points h, h]
  unfold zpz zpy zmany
  by_cases q : pt < p * p
  · rw [if_pos q, if_pos q, if_neg (by decide)]
    exact Int.tmod_eq_emod_of_nonneg hp
  · rw [if_neg q, if_neg q, if_pos rfl]
    by_cases e : pt = p * p + p
    · rw [if_pos e, if_pos (by omega)]
    · rw [if_neg e, if_neg (by omega)]
theorem zB_mod {S : zS2} {v p : Int} (h : S 0 10 = p) (hp : 0 < p) : zm_modulo S v = v % p := by
  unfold zm_modulo
  rw [h]
  have h1 := Int.emod_nonneg v (Int.ne_of_gt hp)
  have h2 := Int.emod_lt_of_pos v hp
  have h3 := Int.tmod_eq_emod (a := v) (b := p)
  rw [h3]
  split <;> split <;> omega
end ZBd
