section ZQg
theorem zat3 {x y one : Int} : zat (zlin3 x y one) 1 0 = x ∧ zat (zlin3 x y one) 0 1 = y ∧ zat (zlin3 x y one) 0 0 = one := by
  have e1 := zatN (c := zlin3 x y one) (a := 1) (b := 0) (by omega)
  have e2 := zatN (c := zlin3 x y one) (a := 0) (b := 1) (by omega)
  have e3 := zatN (c := zlin3 x y one) (a := 0) (b := 0) (by omega)
  rw [zlin3_sp] at e1 e2 e3
  exact ⟨e1, e2, e3⟩
theorem zK_det {K : Type} [Lean.Grind.CommRing K] {p : Int} {φ : Int → K} (h : zKp K p φ) (a b e c d f : Int) : φ (zdet (zlin3 (a % p) (b % p) (e % p)) (zlin3 (c % p) (d % p) (f % p)) p) = φ a * φ d - φ b * φ c := by
  unfold zdet
  rw [zat3.1, zat3.2.1, zat3.1, zat3.2.1, h.em, h.sb, h.ml, h.ml, h.em, h.em, h.em, h.em]
theorem zdet_rg2 {nx ny : Nat → Int} {p : Int} (hp : 0 < p) : 0 ≤ zdet nx ny p ∧ zdet nx ny p < p := ⟨Int.emod_nonneg _ (by omega), Int.emod_lt_of_pos _ hp⟩
theorem zw_setMove_r {M : zCt} {a b e c d k q : Int} : (zw_setMove M a b e c d k q).1 28 = zlin3 (a % q) (b % q) (e % q) ∧ (zw_setMove M a b e c d k q).1 29 = zlin3 (c % q) (d % q) (k % q) ∧ (zw_setMove M a b e c d k q).1 0 17 = q := by
  refine ⟨?_, ?_, ?_⟩
  · show zset (zset (za M.1 0 17 q) 28 (zlin3 (a % q) (b % q) (e % q))) 29 (zlin3 (c % q) (d % q) (k % q)) 28 = _
    rw [zset_ne _ _ (by decide), zset_self]
  · show zset (zset (za M.1 0 17 q) 28 (zlin3 (a % q) (b % q) (e % q))) 29 (zlin3 (c % q) (d % q) (k % q)) 29 = _
    rw [zset_self]
  · show zset (zset (za M.1 0 17 q) 28 (zlin3 (a % q) (b % q) (e % q))) 29 (zlin3 (c % q) (d % q) (k % q)) 0 17 = _
    rw [zset_ne _ _ (by decide), zset_ne _ _ (by decide), za_same]
end ZQg
