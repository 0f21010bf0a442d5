section ZGe
theorem zlin3_z {X Y Z : Int} {i j : Nat} (h : ¬ (i = 1 ∧ j = 0)) (h2 : ¬ (i = 0 ∧ j = 1)) (h3 : ¬ (i = 0 ∧ j = 0)) (hj : j < 5) : zlin3 X Y Z (5 * i + j) = 0 := by
  rw [zlin3_sp, if_neg (by omega), if_neg (by omega), if_neg (by omega)]
theorem zlin3_canm {X Y Z p : Int} (hp : 0 < p) : zcan p (zlin3 (X % p) (Y % p) (Z % p)) := fun q => by
  have hx := And.intro (Int.emod_nonneg X (show p ≠ 0 by omega)) (Int.emod_lt_of_pos X hp)
  have hy := And.intro (Int.emod_nonneg Y (show p ≠ 0 by omega)) (Int.emod_lt_of_pos Y hp)
  have hz := And.intro (Int.emod_nonneg Z (show p ≠ 0 by omega)) (Int.emod_lt_of_pos Z hp)
  rw [zlin3_sp]
  split
  · exact hy
  split
  · exact hx
  split
  · exact hz
  · omega
theorem zlin3_top {X Y Z : Int} (h : ¬ (X = 0 ∧ Y = 0)) : ztop (zlin3 X Y Z) = 1 := by
  have a5 : zlin3 X Y Z (5 * 1 + 0) = X := by rw [zlin3_sp, if_neg (by omega), if_pos (by omega)]
  have a1 : zlin3 X Y Z (5 * 0 + 1) = Y := by rw [zlin3_sp, if_pos (by omega)]
  have g1 : 1 ≤ ztop (zlin3 X Y Z) := by
    by_cases q : X = 0
    · have := (zT_all (zlin3 X Y Z)).1 0 1 (by omega) (by rw [a1]; exact fun z => h ⟨q, z⟩)
      omega
    · have := (zT_all (zlin3 X Y Z)).1 1 0 (by omega) (by rw [a5]; exact q)
      omega
  obtain ⟨i, j, e1, e2, e3⟩ := zT_ex (c := zlin3 X Y Z) (by omega)
  refine Classical.byContradiction fun z => e3 (zlin3_z (by omega) (by omega) (by omega) (by omega))
theorem zlin3_top0 {Z : Int} : ztop (zlin3 0 0 Z) < 1 := by
  refine Classical.byContradiction fun z => ?_
  obtain ⟨i, j, e1, e2, e3⟩ := zT_ex (c := zlin3 0 0 Z) (by omega)
  apply e3
  rw [zlin3_sp]
  split
  · rfl
  split
  · rfl
  rw [if_neg (by omega)]
theorem zlin3_norm {X Y Z p : Int} (h : ¬ (X = 0 ∧ Y = 0)) (q : Nat) : znorm (zlin3 X Y Z) p q = zlin3 X Y Z q * zinv (if X = 0 then Y else X) p % p := by
  unfold znorm
  rw [zlin3_top h]
  have a5 : zlin3 X Y Z (5 * 1 + 0) = X := by rw [zlin3_sp, if_neg (by omega), if_pos (by omega)]
  have a1 : zlin3 X Y Z (5 * 0 + 1) = Y := by rw [zlin3_sp, if_pos (by omega)]
  have e : zat (zlin3 X Y Z) (zlead (zlin3 X Y Z) 1) (1 - zlead (zlin3 X Y Z) 1) = if X = 0 then Y else X := by
    rcases zlead_sp (zlin3 X Y Z) (d := 1) (by omega) with ⟨_, z⟩ | ⟨k, k1, k2, k3, k4⟩
    · have z0 := z 0 (by omega)
      have z1 := z 1 (by omega)
      have z0' : zlin3 X Y Z (5 * 0 + 1) = 0 := z0
      have z1' : zlin3 X Y Z (5 * 1 + 0) = 0 := z1
      rw [a1] at z0'
      rw [a5] at z1'
      exact absurd ⟨z1', z0'⟩ h
    · have k2' : zlead (zlin3 X Y Z) 1 = (k : Int) := k2
      rw [k2', show (1 : Int) - (k : Int) = ((1 - k : Nat) : Int) by omega, zatN (by omega)]
      by_cases y : k = 1
      · rw [y] at k3 ⊢
        have k3' : zlin3 X Y Z (5 * 1 + 0) ≠ 0 := k3
        show zlin3 X Y Z (5 * 1 + 0) = _
        rw [a5] at k3' ⊢
        rw [if_neg k3']
      · have k0 : k = 0 := by omega
        rw [k0] at k4 ⊢
        have k4' : zlin3 X Y Z (5 * 1 + 0) = 0 := k4 1 (by omega) (by omega)
        rw [a5] at k4'
        show zlin3 X Y Z (5 * 0 + 1) = _
        rw [a1, if_pos k4']
  rw [e]
theorem zml_mod {x y z x' y' z' p : Int} (hx : x % p = x' % p) (hy : y % p = y' % p) (hz : z % p = z' % p) : zml x y z p = zml x' y' z' p ∧ zmlb x y z p = zmlb x' y' z' p := by
  unfold zml zmlb
  rw [hx, hy, hz]
  exact ⟨rfl, rfl⟩
/-- a line that is made -/
theorem zm_isLine_sp {S : zS2} {p : Int} (hS : S 0 10 = p) (hpr : zPr p) (x y z : Int) : ∃ U, zm_isLine S x y z = (zmlb x y z p, U) ∧ zFm S U ∧ (zmlb x y z p ≠ 0 → 1 ≤ ztop (zml x y z p) ∧ zflt (zml x y z p) ∧ ∀ q : Nat, q < 25 → U 3 (25 * 144 + q) = zml x y z p q) := by
  obtain ⟨K, iK, φ, h⟩ := zKp_ex hpr
  have hp := zPr_2 hpr
  obtain ⟨T, hT⟩ : ∃ T, T = zm_sets (zm_sets (zm_sets (zm_empties S 144) 144 1 0 x) 144 0 1 y) 144 0 0 z := ⟨_, rfl⟩
  have ln : (∀ k q : Nat, ¬ (k = 3 ∧ 25 * 144 ≤ q ∧ q < 25 * 144 + 25) → T k q = S k q) ∧ ∀ q : Nat, q < 25 → zG T 144 q = zlin3 (x % p) (y % p) (z % p) q := by rw [hT]; exact zm_lin (g := 144) hS (by omega) x y z
  obtain ⟨t1, t2⟩ := ln
  have t10 : T 0 10 = p := by rw [t1 0 10 (by omega), hS]
  have c10 : zm_cell T 144 1 0 = x % p := by
    have e : zm_cell T 144 1 0 = T 3 (25 * 144 + 5 * 1 + 0) := zM_cell (g := 144) (i := 1) (j := 0)
    rw [e, zG_at T 144 1 0, t2 _ (by omega), zlin3_sp, if_neg (by omega), if_pos (by omega)]
  have c01 : zm_cell T 144 0 1 = y % p := by
    have e : zm_cell T 144 0 1 = T 3 (25 * 144 + 5 * 0 + 1) := zM_cell (g := 144) (i := 0) (j := 1)
    rw [e, zG_at T 144 0 1, t2 _ (by omega), zlin3_sp, if_pos (by omega)]
  obtain ⟨hh, hhd⟩ : ∃ hh, hh = (if x % p = 0 then y % p else x % p) := ⟨_, rfl⟩
  have eL : zm_isLine S x y z = (if hh = 0 then (0, T) else (1, zm_sets (zm_sets (zm_sets T 144 1 0 (x * zm_inverse T hh)) 144 0 1 (y * zm_inverse T hh)) 144 0 0 (z * zm_inverse T hh))) := by
    unfold zm_isLine
    simp only [zlet_v]
    rw [← hT]
    unfold zm_isLine_J49
    rw [c10, c01, zlet_v, zlet_v, ← hhd]
  have rx := And.intro (Int.emod_nonneg x (show p ≠ 0 by omega)) (Int.emod_lt_of_pos x (show 0 < p by omega))
  have ry := And.intro (Int.emod_nonneg y (show p ≠ 0 by omega)) (Int.emod_lt_of_pos y (show 0 < p by omega))
  rw [eL]
  by_cases q0 : x % p = 0 ∧ y % p = 0
  · have h0 : hh = 0 := by rw [hhd, if_pos q0.1, q0.2]
    have b0 : zmlb x y z p = 0 := by
      unfold zmlb
      rw [q0.1, q0.2, if_pos zlin3_top0]
    rw [if_pos h0, b0]
    exact ⟨T, rfl, fun k i h1 h2 h3 => t1 k i (by omega), fun e => absurd rfl e⟩
  · have h0 : hh ≠ 0 := by
      rw [hhd]
      by_cases y0 : x % p = 0
      · rw [if_pos y0]; exact fun e => q0 ⟨y0, e⟩
      · rw [if_neg y0]; exact y0
    have hr : 0 ≤ hh ∧ hh < p := by
      rw [hhd]
      split
      · exact ry
      · exact rx
    have tp := zlin3_top (X := x % p) (Y := y % p) (Z := z % p) q0
    have b1 : zmlb x y z p = 1 := by
      unfold zmlb
      rw [tp, if_neg (by decide)]
    have m1 : zml x y z p = znorm (zlin3 (x % p) (y % p) (z % p)) p := by
      unfold zml
      rw [tp, if_neg (by decide)]
    rw [if_neg h0, b1]
    obtain ⟨v, hv⟩ : ∃ v, v = zm_inverse T hh := ⟨_, rfl⟩
    rw [← hv]
    have iv : φ v * φ hh = 1 := by rw [hv]; exact zK_minv h hpr t10 hr h0
    have n0 : φ hh ≠ 0 := fun e => h0 ((h.z0 hr).1 e)
    have iv2 : φ hh * φ (zinv hh p) = 1 := zK_inv h hp.1 n0
    have fv : φ v = φ (zinv hh p) := by
      have e1 : φ v * (φ hh * φ (zinv hh p)) = (φ v * φ hh) * φ (zinv hh p) := (Lean.Grind.Semiring.mul_assoc _ _ _).symm
      rw [iv, iv2, ka_om] at e1
      rw [← e1]
      exact (Lean.Grind.Semiring.mul_one _).symm
    have e1 : zm_sets T 144 1 0 (x * v) = za T 3 (25 * 144 + 5 * 1 + 0) ((x * v) % p) := zm_setsE (g := 144) (i := 1) (j := 0) t10 (by omega)
    have e2 : zm_sets (za T 3 (25 * 144 + 5 * 1 + 0) ((x * v) % p)) 144 0 1 (y * v) = za (za T 3 (25 * 144 + 5 * 1 + 0) ((x * v) % p)) 3 (25 * 144 + 5 * 0 + 1) ((y * v) % p) := zm_setsE (g := 144) (i := 0) (j := 1) (by rw [za_ne (by omega)]; exact t10) (by omega)
    have e3 : zm_sets (za (za T 3 (25 * 144 + 5 * 1 + 0) ((x * v) % p)) 3 (25 * 144 + 5 * 0 + 1) ((y * v) % p)) 144 0 0 (z * v) = za (za (za T 3 (25 * 144 + 5 * 1 + 0) ((x * v) % p)) 3 (25 * 144 + 5 * 0 + 1) ((y * v) % p)) 3 (25 * 144 + 5 * 0 + 0) ((z * v) % p) := zm_setsE (g := 144) (i := 0) (j := 0) (by rw [za_ne (by omega), za_ne (by omega)]; exact t10) (by omega)
    rw [e1, e2, e3]
    obtain ⟨U, hU⟩ : ∃ U, U = za (za (za T 3 (25 * 144 + 5 * 1 + 0) ((x * v) % p)) 3 (25 * 144 + 5 * 0 + 1) ((y * v) % p)) 3 (25 * 144 + 5 * 0 + 0) ((z * v) % p) := ⟨_, rfl⟩
    rw [← hU]
    have can : zcan p (zlin3 (x % p) (y % p) (z % p)) := zlin3_canm (by omega)
    obtain ⟨⟨ν, ν0, nn⟩, _⟩ := knorm h hp.1 can (by omega)
    have num : ∀ w : Int, (w * v) % p = (w % p) * zinv hh p % p := fun w => (h.q _ _).1 (by rw [h.ml, h.ml, h.em, fv])
    refine ⟨U, rfl, fun k i h1 h2 h3 => ?_, fun _ => ⟨?_, ?_, fun q hq => ?_⟩⟩
    · rw [hU, za_ne (by omega), za_ne (by omega), za_ne (by omega)]
      exact t1 k i (by omega)
    · obtain ⟨z1, z2⟩ := zT_ed h (fun i j _ => can _) (n := 1) (by rw [tp]; rfl)
      have e := zT_eq h (c := znorm (zlin3 (x % p) (y % p) (z % p)) p) (n := 1) (fun i j _ => znorm_can _ (by omega) _) (by
        intro i j hij
        rw [nn]
        show ν * zq φ (zlin3 (x % p) (y % p) (z % p)) i j = 0
        rw [z1 i j hij, ka_mz]) (by
        obtain ⟨i, j, w1, w2⟩ := z2
        refine ⟨i, j, w1, ?_⟩
        rw [nn]
        intro e
        rcases h.F.dom _ _ e with e | e
        · exact ν0 e
        · exact w2 e)
      rw [m1, e]
      exact Int.le_refl _
    · rw [m1]
      exact znorm_fl (fun i j hi hj hij => zlin3_z (by omega) (by omega) (by omega) hj)
    · rw [m1, zlin3_norm q0, ← hhd, zlin3_sp, hU]
      by_cases q00 : q = 0
      · rw [q00, if_neg (by decide), if_neg (by decide), if_pos rfl, ← num z]
        exact za_same
      · rw [za_ne (by omega)]
        by_cases q1 : q = 1
        · rw [q1, if_pos rfl, ← num y]
          exact za_same
        · rw [za_ne (by omega), if_neg q1]
          by_cases q5 : q = 5
          · rw [q5, if_pos rfl, ← num x]
            exact za_same
          · rw [za_ne (by omega), if_neg q5, if_neg q00]
            have e := t2 q hq
            unfold zG at e
            rw [e, zlin3_sp, if_neg q1, if_neg q5, if_neg q00]
            simp
/-- a line made, both -/
theorem zmk_line {M N : zCt} {S T : zS2} (hX : zPr (M.1 0 3)) (hS : T 0 10 = M.1 0 3) (vN : zVE N M) (zN : zCI N) (fT : zFm S T) {x y z x' y' z' : Int} (hx : x % (M.1 0 3) = x' % (M.1 0 3)) (hy : y % (M.1 0 3) = y' % (M.1 0 3)) (hz : z % (M.1 0 3) = z' % (M.1 0 3)) : zMkB M S (zmlb x y z (M.1 0 3), zw_made N (zml x y z (M.1 0 3)) (M.1 0 3)) (zm_isLine T x' y' z') := by
  have hp := zPr_2 hX
  obtain ⟨U, u1, u2, u3⟩ := zm_isLine_sp hS hX x' y' z'
  obtain ⟨m1, m2⟩ := zml_mod hx hy hz
  rw [u1, m1, m2]
  have n27 : (zw_made N (zml x' y' z' (M.1 0 3)) (M.1 0 3)).1 27 = zml x' y' z' (M.1 0 3) := by
    unfold zw_made
    dsimp only
    rw [zset_self]
  refine ⟨zv_made.tr vN, fT.tr u2, zi_made zN (zcan_le (zml_can (by omega)) hp.2), ?_⟩
  by_cases b : zmlb x' y' z' (M.1 0 3) = 0
  · exact Or.inl ⟨b, Or.inl b⟩
  · obtain ⟨a1, a2, a3⟩ := u3 b
    exact Or.inr ⟨b, b, by show 1 ≤ ztop ((zw_made N (zml x' y' z' (M.1 0 3)) (M.1 0 3)).1 27); rw [n27]; exact a1, by show zflt ((zw_made N (zml x' y' z' (M.1 0 3)) (M.1 0 3)).1 27); rw [n27]; exact a2, fun q hq => by
      show U 3 (25 * 144 + q) = (zw_made N (zml x' y' z' (M.1 0 3)) (M.1 0 3)).1 27 q
      rw [n27]; exact a3 q hq⟩
end ZGe
