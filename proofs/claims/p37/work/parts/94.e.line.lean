section ZGe
theorem zlin3_z {X Y Z : Int} {i j : Nat} (h : ¬ (i = 1 ∧ j = 0)) (h2 : ¬ (i = 0 ∧ j = 1)) (h3 : ¬ (i = 0 ∧ j = 0)) (hj : j < 5) : zlin3 X Y Z (5 * i + j) = 0 := by
  rw [zlin3_sp, if_neg (by omega), if_neg (by omega), if_neg (by omega)]
theorem zlin3_canm {X Y Z p : Int} (hp : 0 < p) : zcan p (zlin3 (X % p) (Y % p) (Z % p)) := fun q => by
  have hx := And.intro (Int.emod_nonneg X (show p ≠ 0 by omega)) (Int.emod_lt_of_pos X hp)
  have hy := And.intro (Int.emod_nonneg Y (show p ≠ 0 by omega)) (Int.emod_lt_of_pos Y hp)
  have hz := And.intro (Int.emod_nonneg Z (show p ≠ 0 by omega)) (Int.emod_lt_of_pos Z hp)
  rw [zlin3_sp]
  split
  · exact hy
  split
  · exact hx
  split
  · exact hz
  · omega
theorem zlin3_top {X Y Z : Int} (h : ¬ (X = 0 ∧ Y = 0)) : ztop (zlin3 X Y Z) = 1 := by
  have a5 : zlin3 X Y Z (5 * 1 + 0) = X := by rw [zlin3_sp, if_neg (by omega), if_pos (by omega)]
  have a1 : zlin3 X Y Z (5 * 0 + 1) = Y := by rw [zlin3_sp, if_pos (by omega)]
  have g1 : 1 ≤ ztop (zlin3 X Y Z) := by
    by_cases q : X = 0
    · have := (zT_all (zlin3 X Y Z)).1 0 1 (by omega) (by rw [a1]; exact fun z => h ⟨q, z⟩)
      omega
    · have := (zT_all (zlin3 X Y Z)).1 1 0 (by omega) (by rw [a5]; exact q)
      omega
  obtain ⟨i, j, e1, e2, e3⟩ := zT_ex (c := zlin3 X Y Z) (by omega)
  refine Classical.byContradiction fun z => e3 (zlin3_z (by omega) (by omega) (by omega) (by omega))
theorem zlin3_top0 {Z : Int} : ztop (zlin3 0 0 Z) < 1 := by
  refine Classical.byContradiction fun z => ?_
  obtain ⟨i, j, e1, e2, e3⟩ := zT_ex (c := zlin3 0 0 Z) (by omega)
  apply e3
  rw [zlin3_sp]
  split
  · rfl
  split
  · rfl
  rw [if_neg (by omega)]
theorem zlin3_norm {X Y Z p : Int} (h : ¬ (X = 0 ∧ Y = 0)) (q : Nat) : znorm (zlin3 X Y Z) p q = zlin3 X Y Z q * zinv (if X = 0 then Y else X) p % p := by
  unfold znorm
  rw [zlin3_top h]
  have a5 : zlin3 X Y Z (5 * 1 + 0) = X := by rw [zlin3_sp, if_neg (by omega), if_pos (by omega)]
  have a1 : zlin3 X Y Z (5 * 0 + 1) = Y := by rw [zlin3_sp, if_pos (by omega)]
  have e : zat (zlin3 X Y Z) (zlead (zlin3 X Y Z) 1) (1 - zlead (zlin3 X Y Z) 1) = if X = 0 then Y else X := by
    rcases zlead_sp (zlin3 X Y Z) (d := 1) (by omega) with ⟨_, z⟩ | ⟨k, k1, k2, k3, k4⟩
    · have z0 := z 0 (by omega)
      have z1 := z 1 (by omega)
      have z0' : zlin3 X Y Z (5 * 0 + 1) = 0 := z0
      have z1' : zlin3 X Y Z (5 * 1 + 0) = 0 := z1
      rw [a1] at z0'
      rw [a5] at z1'
      exact absurd ⟨z1', z0'⟩ h
    · have k2' : zlead (zlin3 X Y Z) 1 = (k : Int) := k2
      rw [k2', show (1 : Int) - (k : Int) = ((1 - k : Nat) : Int) by omega, zatN (by omega)]
      by_cases y : k = 1
      · rw [y] at k3 ⊢
        have k3' : zlin3 X Y Z (5 * 1 + 0) ≠ 0 := k3
        show zlin3 X Y Z (5 * 1 + 0) = _
        rw [a5] at k3' ⊢
        rw [if_neg k3']
      · have k0 : k = 0 := by omega
        rw [k0] at k4 ⊢
        have k4' : zlin3 X Y Z (5 * 1 + 0) = 0 := k4 1 (by omega) (by omega)
        rw [a5] at k4'
        show zlin3 X Y Z (5 * 0 + 1) = _
        rw [a1, if_pos k4']
  rw [e]
theorem zml_mod {x y z x' y' z' p : Int} (hx : x % p = x' % p) (hy : y % p = y' % p) (hz : z % p = z' % p) : zml x y z p = zml x' y' z' p ∧ zmlb x y z p = zmlb x' y' z' p := by
  unfold zml zmlb
  rw [hx, hy, hz]
  exact ⟨rfl, rfl⟩
end ZGe
