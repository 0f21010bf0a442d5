section ZQh
theorem zfact_29 (L : Nat) : zlK_29 zBm L := by
  intro i M S pt a b e c d f _ _ hR hC hI _ _ _ _ _ _ _
  have hB := hR.1.2.2.1
  have hp := hC.p
  obtain ⟨K, iK, φ, h⟩ := zKp_ex hR.2.1
  obtain ⟨zc0, zc1⟩ := zB_can h hp.1 hB.1 a b e c d f
  by_cases hq : zpt pt (M.1 0 3)
  · obtain ⟨⟨g1, g2, g3⟩, _⟩ := zgo_rng (M := M) hp (n := pt) (by rw [bI_t hq]; decide)
    have e3 : (zw_go M pt (M.1 0 3)).1 0 3 = M.1 0 3 := zv_go.p
    by_cases q : φ a * φ d - φ b * φ c = 0
    · obtain ⟨z1, z2⟩ := zc0 q
      have ec : zc_moved M pt a b e c d f = (-1, zw_setMove (zw_go M pt (M.1 0 3)) a b e c d f (M.1 0 3)) := by
        unfold zc_moved
        rw [bI_t hq, zlet_v, zlet_v, if_neg (by decide), e3, z1, zlet_v, zlet_v, if_pos rfl]
      have em : zm_moved S pt a b e c d f = -1 := by
        unfold zm_moved
        rw [zB_isPoint hB.1, bI_t hq, zlet_v, if_neg (by decide), z2, zlet_v, if_pos rfl]
      rw [ec, em]
      exact ⟨rfl, zBm_q hR hC (zv_setMove.tr zv_go) zFm.rf⟩
    · obtain ⟨z1, z2⟩ := zc1 q
      obtain ⟨p, ep⟩ : ∃ p, p = M.1 0 3 := ⟨_, rfl⟩
      obtain ⟨N, hN⟩ : ∃ N, N = zw_setMove (zw_go M pt (M.1 0 3)) a b e c d f (M.1 0 3) := ⟨_, rfl⟩
      have r2 := zw_setMove_r (M := zw_go M pt (M.1 0 3)) (a := a) (b := b) (e := e) (c := c) (d := d) (k := f) (q := M.1 0 3)
      have ro : ∀ i : Nat, i ≠ 17 → N.1 0 i = (zw_go M pt (M.1 0 3)).1 0 i := fun i hi => by
        rw [hN]
        show zset (zset (za (zw_go M pt (M.1 0 3)).1 0 17 (M.1 0 3)) 28 (zlin3 (a % M.1 0 3) (b % M.1 0 3) (e % M.1 0 3))) 29 (zlin3 (c % M.1 0 3) (d % M.1 0 3) (f % M.1 0 3)) 0 i = _
        rw [zset_ne _ _ (by decide), zset_ne _ _ (by decide), za_ne (by omega)]
      rw [← hN] at r2
      have ec : zc_moved M pt a b e c d f = (zwh (zlin3 (a % p) (b % p) (e % p)) (zlin3 (c % p) (d % p) (f % p)) p (zpx pt p) (zpy pt p) (zpz pt p), N) := by
        unfold zc_moved
        rw [bI_t hq, zlet_v, zlet_v, if_neg (by decide), e3, z1, zlet_v, ← hN, zlet_v, if_neg (by decide), r2.1, r2.2.1, r2.2.2, ro 10 (by decide), ro 11 (by decide), ro 12 (by decide), g1, g2, g3, ep, zlet_v]
      have hS : S 0 10 = p := by rw [ep]; exact hB.1
      rw [← ep] at hq hp h
      have hpr := hR.2.1
      rw [← ep] at hpr
      obtain ⟨det, hdet⟩ : ∃ det, det = (a * d - b * c) % p := ⟨_, rfl⟩
      have rdet : 0 ≤ det ∧ det < p := by rw [hdet]; exact ⟨Int.emod_nonneg _ (by omega), Int.emod_lt_of_pos _ (by omega)⟩
      have fdet : φ det = φ a * φ d - φ b * φ c := by rw [hdet, h.em, h.sb, h.ml, h.ml]
      have dn0 : det ≠ 0 := fun z => q (by rw [← fdet, z, h.z])
      obtain ⟨iv, hiv⟩ : ∃ iv, iv = zm_inverse S det := ⟨_, rfl⟩
      have fiv : φ iv * φ det = 1 := by rw [hiv]; exact zK_minv h hpr hS rdet dn0
      obtain ⟨ex, hex⟩ : ∃ ex, ex = (if zpz pt p = 0 then 0 else e) := ⟨_, rfl⟩
      obtain ⟨ey, hey⟩ : ∃ ey, ey = (if zpz pt p = 0 then 0 else f) := ⟨_, rfl⟩
      obtain ⟨px, hpx⟩ : ∃ px, px = (((zpx pt p - ex) % p * (d % p) - (zpy pt p - ey) % p * (b % p)) % p * iv) % p := ⟨_, rfl⟩
      obtain ⟨py, hpy⟩ : ∃ py, py = (((zpy pt p - ey) % p * (a % p) - (zpx pt p - ex) % p * (c % p)) % p * iv) % p := ⟨_, rfl⟩
      have em : zm_moved S pt a b e c d f = (if zpz pt p = 0 then (if px = 0 then zmany p - 1 else p * p + (py * zm_inverse S px) % p) else p * px + py) := by
        unfold zm_moved
        rw [zB_isPoint hS, bI_t hq, zlet_v, if_neg (by decide), z2, zlet_v, if_neg (by decide)]
        simp only [zlet_v]
        simp only [zB_mod hS (show 0 < p by omega), zB_isNear hS, zB_points hS, zB_xOf hS hq.1, zB_yOf hS hq.1, hS]
        rw [← hdet, ← hiv]
        have j57 : zm_moved_J57 e (zpz pt p) = ex := by rw [hex]; rfl
        have j81 : zm_moved_J81 f (zpz pt p) = ey := by rw [hey]; rfl
        rw [j57, j81, ← hpx, ← hpy]
      rw [ec, em]
      refine ⟨?_, zBm_q hR hC (by rw [hN]; exact zv_setMove.tr zv_go) zFm.rf⟩
      show zwh (zlin3 (a % p) (b % p) (e % p)) (zlin3 (c % p) (d % p) (f % p)) p (zpx pt p) (zpy pt p) (zpz pt p) = _
      have rpx : 0 ≤ px ∧ px < p := by rw [hpx]; exact ⟨Int.emod_nonneg _ (by omega), Int.emod_lt_of_pos _ (by omega)⟩
      have rpy : 0 ≤ py ∧ py < p := by rw [hpy]; exact ⟨Int.emod_nonneg _ (by omega), Int.emod_lt_of_pos _ (by omega)⟩
      have kd := zK_det h a b e c d f
      have kd0 : φ (zdet (zlin3 (a % p) (b % p) (e % p)) (zlin3 (c % p) (d % p) (f % p)) p) ≠ 0 := by rw [kd]; exact q
      have ki := zK_inv h hp.1 kd0
      rw [kd] at ki
      rw [fdet] at fiv
      have eqi : φ (zinv (zdet (zlin3 (a % p) (b % p) (e % p)) (zlin3 (c % p) (d % p) (f % p)) p) p) = φ iv := by
        have e1 : ∀ D x y : K, D * x = 1 → y * D = 1 → x = y := fun D x y h1 h2 => by
          have e2 : y * (D * x) = x := by
            rw [show y * (D * x) = (y * D) * x by grind, h2]; grind
          rw [h1] at e2; grind
        exact e1 _ _ _ ki fiv
      have zsub : ∀ X E : Int, X - zpz pt p * E = X - (if zpz pt p = 0 then 0 else E) := fun X E => by
        rcases zpz_01 pt p with z | z
        · rw [z, if_pos rfl, Int.zero_mul]
        · rw [z, if_neg (by decide), Int.one_mul]
      have eL : zwhL (zlin3 (a % p) (b % p) (e % p)) (zlin3 (c % p) (d % p) (f % p)) p (zpx pt p - zpz pt p * zat (zlin3 (a % p) (b % p) (e % p)) 0 0) (zpy pt p - zpz pt p * zat (zlin3 (c % p) (d % p) (f % p)) 0 0) = px := by
        refine h.ij ⟨Int.emod_nonneg _ (by omega), Int.emod_lt_of_pos _ (by omega)⟩ rpx ?_
        unfold zwhL
        rw [zat3.2.1, zat3.2.1, zat3.2.2, zat3.2.2, hpx, h.em, h.ml, eqi, h.em, h.em, h.ml, h.em, h.sb, h.sb, h.ml, h.ml, h.ml, h.ml, h.em, h.em, h.em, h.em, hex, hey]
        rcases zpz_01 pt p with z | z
        · rw [z, if_pos rfl, if_pos rfl, Int.zero_mul, Int.zero_mul]; grind
        · rw [z, if_neg (by decide), if_neg (by decide), Int.one_mul, Int.one_mul, h.sb, h.sb, h.sb, h.sb, h.em, h.em]; grind
      have eR : zwhR (zlin3 (a % p) (b % p) (e % p)) (zlin3 (c % p) (d % p) (f % p)) p (zpx pt p - zpz pt p * zat (zlin3 (a % p) (b % p) (e % p)) 0 0) (zpy pt p - zpz pt p * zat (zlin3 (c % p) (d % p) (f % p)) 0 0) = py := by
        refine h.ij ⟨Int.emod_nonneg _ (by omega), Int.emod_lt_of_pos _ (by omega)⟩ rpy ?_
        unfold zwhR
        rw [zat3.1, zat3.1, zat3.2.2, zat3.2.2, hpy, h.em, h.ml, eqi, h.em, h.em, h.ml, h.em, h.sb, h.sb, h.ml, h.ml, h.ml, h.ml, h.em, h.em, h.em, h.em, hex, hey]
        rcases zpz_01 pt p with z | z
        · rw [z, if_pos rfl, if_pos rfl, Int.zero_mul, Int.zero_mul]; grind
        · rw [z, if_neg (by decide), if_neg (by decide), Int.one_mul, Int.one_mul, h.sb, h.sb, h.sb, h.sb, h.em, h.em]; grind
      unfold zwh
      rw [eL, eR]
      unfold zwhP
      rcases zpz_01 pt p with z | z
      · rw [z, if_neg (by decide), if_pos rfl]
        by_cases q0 : px = 0
        · rw [if_pos q0, if_pos q0]
          unfold zmany; omega
        · rw [if_neg q0, if_neg q0]
          have k1 := zK_minv h hpr hS rpx q0
          have k2 := zK_inv h hp.1 (a := px) (fun z => q0 ((h.z0 rpx).1 z))
          have k3 : φ (zinv px p) = φ (zm_inverse S px) := by
            have e2 : φ (zm_inverse S px) * (φ px * φ (zinv px p)) = φ (zinv px p) := by
              rw [show φ (zm_inverse S px) * (φ px * φ (zinv px p)) = (φ (zm_inverse S px) * φ px) * φ (zinv px p) by grind, k1]; grind
            rw [k2] at e2; grind
          have k4 : (py * zinv px p) % p = (py * zm_inverse S px) % p := (h.q _ _).1 (by rw [h.ml, h.ml, k3])
          rw [k4]
      · rw [z, if_pos rfl, if_neg (by decide), Int.mul_comm]
  · have ec : zc_moved M pt a b e c d f = (-1, zw_go M pt (M.1 0 3)) := by
      unfold zc_moved
      rw [bI_f hq]
      rfl
    have em : zm_moved S pt a b e c d f = -1 := by
      unfold zm_moved
      rw [zB_isPoint hB.1, bI_f hq]
      rfl
    rw [ec, em]
    exact ⟨rfl, zBm_q hR hC zv_go zFm.rf⟩
end ZQh
