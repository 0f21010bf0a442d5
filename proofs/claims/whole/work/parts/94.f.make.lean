section ZGf
theorem zmk_3 {i : Int} {M : zCt} {S : zS2} {a b t : Int} (hR : zBm i M S) (hC : zCI M) : zMkB M S (zc_build M a b 3 t) (zm_makes S a b 3 t) := by
  have hB := hR.1.2.2.1
  have hp := zPr_2 hR.2.1
  have ec : zc_build M a b 3 t = (zthZ a b (M.1 0 3), zw_made M (zthP a b (M.1 0 3) (M.1 27)) (M.1 0 3)) := by
    unfold zc_build
    rw [if_neg (by decide), if_neg (by decide), if_neg (by decide), if_pos rfl]
    simp only [zlet_v]
  have em : zm_makes S a b 3 t = zm_makesLine S a b := by
    unfold zm_makes
    rw [if_neg (by decide), if_neg (by decide), if_neg (by decide), if_pos rfl, zlet_v]
  rw [ec, em]
  have no : ¬ (a ≠ b ∧ zpt a (M.1 0 3) ∧ zpt b (M.1 0 3)) → zMkB M S (zthZ a b (M.1 0 3), zw_made M (zthP a b (M.1 0 3) (M.1 27)) (M.1 0 3)) (0, S) := fun h => by
    have e1 : zthZ a b (M.1 0 3) = 0 := by
      unfold zthZ
      rw [if_neg h]
    have e2 : zthP a b (M.1 0 3) (M.1 27) = M.1 27 := by
      unfold zthP
      rw [if_neg h]
    rw [e1, e2]
    exact ⟨zv_made, zFm.rf, zi_made hC hC.md, Or.inl ⟨rfl, Or.inl rfl⟩⟩
  unfold zm_makesLine
  rw [zB_isPoint hB.1, zB_isPoint hB.1]
  by_cases pa : zpt a (M.1 0 3)
  · rw [bI_t pa, zlet_v, if_neg (by decide)]
    by_cases pb : zpt b (M.1 0 3)
    · rw [bI_t pb, zlet_v, if_neg (by decide)]
      by_cases ab : a = b
      · rw [if_pos ab]
        exact no (fun z => z.1 ab)
      · rw [if_neg ab]
        simp only [zlet_v]
        have ja : zm_makesLine_J28 (zm_isNear S a) = zpz a (M.1 0 3) := by
          rw [zB_isNear hB.1]
          unfold zm_makesLine_J28
          rcases zpz_01 a (M.1 0 3) with z | z
          · rw [z, if_pos rfl]
          · rw [z, if_neg (by decide)]
        have jb : zm_makesLine_J42 (zm_isNear S b) = zpz b (M.1 0 3) := by
          rw [zB_isNear hB.1]
          unfold zm_makesLine_J42
          rcases zpz_01 b (M.1 0 3) with z | z
          · rw [z, if_pos rfl]
          · rw [z, if_neg (by decide)]
        have pa0 : 0 ≤ a := pa.1
        have pb0 : 0 ≤ b := pb.1
        rw [ja, jb, zB_yOf hB.1 pa0, zB_yOf hB.1 pb0, zB_xOf hB.1 pa0, zB_xOf hB.1 pb0, zB_mod hB.1 (by omega), zB_mod hB.1 (by omega), zB_mod hB.1 (by omega)]
        have e1 : zthZ a b (M.1 0 3) = zmlb (zlt a b (M.1 0 3)).1 (zlt a b (M.1 0 3)).2.1 (zlt a b (M.1 0 3)).2.2 (M.1 0 3) := by
          unfold zthZ
          rw [if_pos ⟨ab, pa, pb⟩]
        have e2 : zthP a b (M.1 0 3) (M.1 27) = zml (zlt a b (M.1 0 3)).1 (zlt a b (M.1 0 3)).2.1 (zlt a b (M.1 0 3)).2.2 (M.1 0 3) := by
          unfold zthP
          rw [if_pos ⟨ab, pa, pb⟩]
        rw [e1, e2]
        exact zmk_line hR.2.1 hB.1 zVE.rf hC zFm.rf (Int.emod_emod_of_dvd _ (Int.dvd_refl _)).symm (Int.emod_emod_of_dvd _ (Int.dvd_refl _)).symm (Int.emod_emod_of_dvd _ (Int.dvd_refl _)).symm
    · rw [bI_f pb, zlet_v, if_pos rfl]
      exact no (fun z => pb z.2.2)
  · rw [bI_f pa, zlet_v, if_pos rfl]
    exact no (fun z => pa z.2.1)
theorem zmk_4 {i : Int} {M : zCt} {S : zS2} {a b t : Int} (hR : zBm i M S) (hC : zCI M) : zMkB M S (zc_build M a b 4 t) (zm_makes S a b 4 t) := by
  have hB := hR.1.2.2.1
  have hp := zPr_2 hR.2.1
  have ec : zc_build M a b 4 t = (if (zc_lookAt M a b).1 = 0 then (0, (zc_lookAt M a b).2) else if zleast ((zc_lookAt M a b).2.1 20) = 1 then (if zltZ ((zc_lookAt M a b).2.1 20) ((zc_lookAt M a b).2.1 0 10) ((zc_lookAt M a b).2.1 0 11) ((zc_lookAt M a b).2.1 0 12) ((zc_lookAt M a b).2.1 0 3) = 0 then (0, zw_made (zc_lookAt M a b).2 (zltP ((zc_lookAt M a b).2.1 20) ((zc_lookAt M a b).2.1 0 10) ((zc_lookAt M a b).2.1 0 11) ((zc_lookAt M a b).2.1 0 12) ((zc_lookAt M a b).2.1 0 3)) ((zc_lookAt M a b).2.1 0 3)) else (1, zw_made (zc_lookAt M a b).2 (zltP ((zc_lookAt M a b).2.1 20) ((zc_lookAt M a b).2.1 0 10) ((zc_lookAt M a b).2.1 0 11) ((zc_lookAt M a b).2.1 0 12) ((zc_lookAt M a b).2.1 0 3)) ((zc_lookAt M a b).2.1 0 3))) else (0, (zc_lookAt M a b).2)) := by
    unfold zc_build
    rw [if_neg (by decide), if_neg (by decide), if_neg (by decide), if_neg (by decide), if_pos rfl]
    simp only [zlet_v]
  have em : zm_makes S a b 4 t = zm_makesTangent S a b := by
    unfold zm_makes
    rw [if_neg (by decide), if_neg (by decide), if_neg (by decide), if_neg (by decide), if_pos rfl, zlet_v]
  rw [ec, em]
  obtain ⟨e1, e2⟩ := zm_asked hB (cv := a) (pt := b)
  by_cases h : (0 ≤ a ∧ a < M.1 0 4) ∧ zpt b (M.1 0 3)
  · obtain ⟨N, c1, c2, c3, c4, c5, c6, c7, c8⟩ := zc_look hC h.1 h.2
    obtain ⟨o1, o2, o3, o4⟩ := zB_order hB hR.2 hC h.1 h.2
    have n3 : N.1 0 3 = M.1 0 3 := c2.2 0 3 (by omega) (by omega)
    rw [c1]
    dsimp only
    rw [if_neg (show ¬ (1 : Int) = 0 by decide), c4, c6, c7, c8, n3]
    obtain ⟨T, hT⟩ : ∃ T, T = (zm_orderAt S a b).2 := ⟨_, rfl⟩
    have eT : zm_orderAt S a b = (zleast (zLk M a b), T) := Prod.ext o2 hT.symm
    rw [← hT] at o1 o3
    have t10 : T 0 10 = M.1 0 3 := by rw [o1 0 10 (by omega) (by omega) (by omega), hB.1]
    unfold zm_makesTangent
    rw [e1, bI_t h.1, zlet_v, if_neg (show ¬ (1 : Int) = 0 by decide), e2, bI_t h.2, zlet_v, if_neg (show ¬ (1 : Int) = 0 by decide), eT, zlet_v]
    dsimp only
    by_cases l1 : zleast (zLk M a b) = 1
    · rw [if_pos l1, if_pos l1]
      simp only [zlet_v]
      have p0 : 0 ≤ b := h.2.1
      have k1 : zm_cell T 141 1 0 = zat (zLk M a b) 1 0 := by
        have q1 : zm_cell T 141 1 0 = zLk M a b (5 * 1 + 0) := o3 1 0 (by omega)
        have q2 : zat (zLk M a b) 1 0 = zLk M a b (5 * 1 + 0) := zatN (a := 1) (b := 0) (by omega)
        rw [q1, q2]
      have k2 : zm_cell T 141 0 1 = zat (zLk M a b) 0 1 := by
        have q1 : zm_cell T 141 0 1 = zLk M a b (5 * 0 + 1) := o3 0 1 (by omega)
        have q2 : zat (zLk M a b) 0 1 = zLk M a b (5 * 0 + 1) := zatN (a := 0) (b := 1) (by omega)
        rw [q1, q2]
      rw [k1, k2, zB_isNear t10, zB_points t10, zB_yOf t10 p0, zB_xOf t10 p0, zB_mod t10 (by omega), zB_mod t10 (by omega)]
      have fin : ∀ x' y' z' : Int, (ztan (zLk M a b) (zpx b (M.1 0 3)) (zpy b (M.1 0 3)) (zpz b (M.1 0 3))).1 % (M.1 0 3) = x' % (M.1 0 3) → (ztan (zLk M a b) (zpx b (M.1 0 3)) (zpy b (M.1 0 3)) (zpz b (M.1 0 3))).2.1 % (M.1 0 3) = y' % (M.1 0 3) → (ztan (zLk M a b) (zpx b (M.1 0 3)) (zpy b (M.1 0 3)) (zpz b (M.1 0 3))).2.2 % (M.1 0 3) = z' % (M.1 0 3) → zMkB M S (if zltZ (zLk M a b) (zpx b (M.1 0 3)) (zpy b (M.1 0 3)) (zpz b (M.1 0 3)) (M.1 0 3) = 0 then (0, zw_made N (zltP (zLk M a b) (zpx b (M.1 0 3)) (zpy b (M.1 0 3)) (zpz b (M.1 0 3)) (M.1 0 3)) (M.1 0 3)) else (1, zw_made N (zltP (zLk M a b) (zpx b (M.1 0 3)) (zpy b (M.1 0 3)) (zpz b (M.1 0 3)) (M.1 0 3)) (M.1 0 3))) (zm_isLine T x' y' z') := fun x' y' z' h1 h2 h3 => by
        have k := zmk_line (S := S) hR.2.1 t10 c2 c3 o1 h1 h2 h3
        have eq : (if zltZ (zLk M a b) (zpx b (M.1 0 3)) (zpy b (M.1 0 3)) (zpz b (M.1 0 3)) (M.1 0 3) = 0 then ((0 : Int), zw_made N (zltP (zLk M a b) (zpx b (M.1 0 3)) (zpy b (M.1 0 3)) (zpz b (M.1 0 3)) (M.1 0 3)) (M.1 0 3)) else (1, zw_made N (zltP (zLk M a b) (zpx b (M.1 0 3)) (zpy b (M.1 0 3)) (zpz b (M.1 0 3)) (M.1 0 3)) (M.1 0 3))) = (zltZ (zLk M a b) (zpx b (M.1 0 3)) (zpy b (M.1 0 3)) (zpz b (M.1 0 3)) (M.1 0 3), zw_made N (zltP (zLk M a b) (zpx b (M.1 0 3)) (zpy b (M.1 0 3)) (zpz b (M.1 0 3)) (M.1 0 3)) (M.1 0 3)) := by
          by_cases q : zltZ (zLk M a b) (zpx b (M.1 0 3)) (zpy b (M.1 0 3)) (zpz b (M.1 0 3)) (M.1 0 3) = 0
          · rw [if_pos q, q]
          · rw [if_neg q]
            have q1 : zltZ (zLk M a b) (zpx b (M.1 0 3)) (zpy b (M.1 0 3)) (zpz b (M.1 0 3)) (M.1 0 3) = 1 := by
              unfold zltZ zmlb at q ⊢
              split at q
              · exact absurd rfl q
              · rename_i w
                rw [if_neg w]
            rw [q1]
        rw [eq]
        exact k
      by_cases z0 : zpz b (M.1 0 3) = 0
      · rw [if_pos z0]
        have nb : ¬ b < M.1 0 3 * M.1 0 3 := fun q => by
          unfold zpz at z0
          rw [if_pos q] at z0
          exact absurd z0 (by decide)
        by_cases px : b = zmany (M.1 0 3) - 1
        · rw [if_pos px]
          have x0 : zpx b (M.1 0 3) = 0 := by
            unfold zpx
            unfold zmany at px
            rw [if_neg nb, if_pos (by omega)]
          have et : ztan (zLk M a b) (zpx b (M.1 0 3)) (zpy b (M.1 0 3)) (zpz b (M.1 0 3)) = (zat (zLk M a b) 1 0, 0, zat (zLk M a b) 0 1) := by
            unfold ztan
            rw [z0, x0, if_neg (by decide), if_neg (by decide)]
          exact fin _ _ _ (by rw [et]) (by rw [et]) (by rw [et])
        · rw [if_neg px]
          have x1 : zpx b (M.1 0 3) = 1 := by
            unfold zpx
            unfold zmany at px
            rw [if_neg nb, if_neg (by omega)]
          have et : ztan (zLk M a b) (zpx b (M.1 0 3)) (zpy b (M.1 0 3)) (zpz b (M.1 0 3)) = (-zat (zLk M a b) 1 0 * zpy b (M.1 0 3), zat (zLk M a b) 1 0, zat (zLk M a b) 0 1) := by
            unfold ztan
            rw [z0, x1, if_neg (by decide), if_pos rfl]
          exact fin _ _ _ (by rw [et]; exact (Int.emod_emod_of_dvd _ (Int.dvd_refl _)).symm) (by rw [et]) (by rw [et])
      · have z1 : zpz b (M.1 0 3) = 1 := by
          rcases zpz_01 b (M.1 0 3) with z | z
          · exact absurd z z0
          · exact z
        rw [if_neg z0]
        have et : ztan (zLk M a b) (zpx b (M.1 0 3)) (zpy b (M.1 0 3)) (zpz b (M.1 0 3)) = (zat (zLk M a b) 1 0, zat (zLk M a b) 0 1, -zat (zLk M a b) 1 0 * zpx b (M.1 0 3) - zat (zLk M a b) 0 1 * zpy b (M.1 0 3)) := by
          unfold ztan
          rw [z1, if_pos rfl]
        exact fin _ _ _ (by rw [et]) (by rw [et]) (by rw [et]; exact (Int.emod_emod_of_dvd _ (Int.dvd_refl _)).symm)
    · rw [if_neg l1, if_neg l1]
      exact ⟨c2, o1, c3, Or.inl ⟨rfl, Or.inl rfl⟩⟩
  · obtain ⟨N, c1, c2, c3⟩ := zc_look0 hC h
    rw [c1]
    dsimp only
    rw [if_pos rfl]
    have em : zm_makesTangent S a b = (0, S) := by
      unfold zm_makesTangent
      rw [e1, e2]
      by_cases h1 : 0 ≤ a ∧ a < M.1 0 4
      · rw [bI_t h1, zlet_v, if_neg (by decide), bI_f (fun q => h ⟨h1, q⟩), zlet_v, if_pos rfl]
      · rw [bI_f h1, zlet_v, if_pos rfl]
    rw [em]
    exact ⟨c2, zFm.rf, c3, Or.inl ⟨rfl, Or.inl rfl⟩⟩
end ZGf
