section ZBb
theorem zB_fin {i : Int} {M : zCt} {S : zS2} (h : zBl i M S) : (M.1 0 2, M).1 = (S 0 1, S).1 ∧ zBl (i + 8) (M.1 0 2, M).2 (S 0 1, S).2 := ⟨h.1.1.symm, ⟨h.1, h.2.1, h.2.2.1, h.2.2.2⟩⟩
theorem zfact_0 (L : Nat) : zlK_0 zBl L := by
  intro i M S a1 a2 a3 a4 a5 _ _ hR hC hI _ _ _ _ _
  have hn := hC.tp.1
  by_cases h : M.1 0 2 ≤ 980
  · have e1 : zc_feed M a1 a2 a3 a4 a5 = ((zw_append (zw_append (zw_append (zw_append (zw_append M a1) a2) a3) a4) a5).1 0 2, zw_append (zw_append (zw_append (zw_append (zw_append M a1) a2) a3) a4) a5) := by
      unfold zc_feed
      rw [if_pos h]
      rfl
    have e2 : zm_feed S a1 a2 a3 a4 a5 = ((zm_lays (zm_lays (zm_lays (zm_lays (zm_lays S a1) a2) a3) a4) a5) 0 1, zm_lays (zm_lays (zm_lays (zm_lays (zm_lays S a1) a2) a3) a4) a5) := by
      unfold zm_feed
      rw [if_pos (by rw [hR.1.1]; omega)]
      rfl
    rw [e1, e2]
    have l0 := (zw_append_4 (x := a1) hn (by omega)).1
    have c1 := zi_append (x := a1) hC
    have r1 := zBl_app (x := a1) hR hC (by omega)
    have l1 := (zw_append_4 (x := a2) c1.tp.1 (by omega)).1
    have c2 := zi_append (x := a2) c1
    have r2 := zBl_app (x := a2) r1 c1 (by omega)
    have l2 := (zw_append_4 (x := a3) c2.tp.1 (by omega)).1
    have c3 := zi_append (x := a3) c2
    have r3 := zBl_app (x := a3) r2 c2 (by omega)
    have l3 := (zw_append_4 (x := a4) c3.tp.1 (by omega)).1
    have c4 := zi_append (x := a4) c3
    have r4 := zBl_app (x := a4) r3 c3 (by omega)
    have r5 := zBl_app (x := a5) r4 c4 (by omega)
    exact zB_fin r5
  · have e1 : zc_feed M a1 a2 a3 a4 a5 = (-1, zw_ref M 0 ((M.1 1 0) + 1)) := by
      unfold zc_feed
      exact zlet_e (if_neg h) (zif_t rfl (zlet_e (zB_refuse (by decide)) rfl))
    have e2 : zm_feed S a1 a2 a3 a4 a5 = (-1, za S 2 0 ((S 2 0) + 1)) := by
      unfold zm_feed
      rw [if_neg (by rw [hR.1.1]; omega)]
      exact zlet_e (show zm_refuses S 0 = (-1, za S 2 0 ((S 2 0) + 1)) from rfl) rfl
    rw [e1, e2]
    exact ⟨rfl, zBl_ref (i := i + 8) hR hC (by decide)⟩
theorem zfact_3 (L : Nat) : zlK_3 zBl L := by
  intro i M S a1 _ _ hR hC hI _
  unfold zc_fault zm_fault
  by_cases h : a1 = 0
  · rw [if_pos h, if_pos h]; exact ⟨hR.2.1.1.1.symm, hR⟩
  rw [if_neg h, if_neg h]
  by_cases h1 : a1 = 1
  · rw [if_pos h1, if_pos h1]; exact ⟨hR.2.1.1.2.symm, hR⟩
  rw [if_neg h1, if_neg h1]
  exact ⟨rfl, hR⟩
theorem zfact_4 (L : Nat) : zlK_4 zBl L := by
  intro i M S a1 _ _ hR hC hI _
  unfold zc_has zm_has
  by_cases h : a1 = 0
  · rw [if_pos h, if_pos h]; exact ⟨hR.2.2.1.1.symm, hR⟩
  rw [if_neg h, if_neg h]
  by_cases h1 : a1 = 1
  · rw [if_pos h1, if_pos h1]; exact ⟨hR.2.2.1.2.1.symm, hR⟩
  rw [if_neg h1, if_neg h1]
  by_cases h2 : a1 = 2
  · rw [if_pos h2, if_pos h2]
    refine ⟨?_, hR⟩
    show zmany (M.1 0 3) = zm_points S
    unfold zmany zm_points
    rw [hR.2.2.1.1]
  rw [if_neg h2, if_neg h2]
  by_cases h3 : a1 = 3
  · rw [if_pos h3, if_pos h3]; exact ⟨hR.2.2.2.1.symm, hR⟩
  rw [if_neg h3, if_neg h3]
  exact ⟨rfl, hR⟩
theorem zB_isIn {v lo hi : Int} : zm_isIn v lo hi = if lo ≤ v ∧ v ≤ hi then 1 else 0 := by
  unfold zm_isIn
  by_cases h : v < lo
  · rw [if_pos h, if_neg (by omega)]
  rw [if_neg h]
  by_cases h2 : hi < v
  · rw [if_pos h2, if_neg (by omega)]
  · rw [if_neg h2, if_pos (by omega)]
theorem zfact_33 (L : Nat) : zlK_33 zBl L := by
  intro i M S a1 _ _ hR hC hI _
  unfold zc_status zm_status
  rw [zB_isIn]
  by_cases h : a1 < 0
  · rw [if_pos h, if_neg (by omega)]; exact ⟨rfl, hR⟩
  rw [if_neg h]
  by_cases h1 : a1 < 5
  · rw [if_pos h1, if_pos (by omega)]
    exact ⟨(hR.2.1.2 a1.toNat (by omega)).symm, hR⟩
  rw [if_neg h1, if_neg (by omega)]
  exact ⟨rfl, hR⟩
theorem zfact_1 (L : Nat) : zlK_1 zBl L := by
  intro i M S a1 _ _ hR hC hI _
  have hn := hC.cn
  have hno : zBl (i + 8) (zw_ref M 0 ((M.1 1 0) + 1)) (za S 2 0 ((S 2 0) + 1)) := zBl_ref (i := i + 8) hR hC (by decide)
  unfold zc_end zm_end
  by_cases h : a1 < 0
  · rw [if_pos h, if_pos h, zB_refuse (by decide)]; exact ⟨rfl, hno⟩
  rw [if_neg h, if_neg h]
  by_cases h1 : a1 ≤ M.1 0 2
  · rw [if_pos h1, if_pos (by rw [hR.1.1]; exact h1)]
    refine ⟨rfl, ⟨?_, fun q hq => ?_⟩, ⟨⟨hR.2.1.1.1, hR.2.1.1.2⟩, fun q hq => hR.2.1.2 q hq⟩, hR.2.2.1.same rfl rfl rfl rfl rfl rfl (fun _ _ => rfl) (fun _ _ => rfl) hn.2, hR.2.2.2.same rfl rfl rfl rfl rfl rfl rfl rfl (fun _ => rfl)⟩
    · rfl
    · exact hR.1.2 q (by have hq : (q : Int) < a1 := hq; omega)
  · rw [if_neg h1, if_neg (by rw [hR.1.1]; exact h1), zB_refuse (by decide)]
    exact ⟨rfl, hno⟩
end ZBb
