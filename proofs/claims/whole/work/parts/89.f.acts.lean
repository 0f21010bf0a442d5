section ZQg
theorem zat3 {x y one : Int} : zat (zlin3 x y one) 1 0 = x ∧ zat (zlin3 x y one) 0 1 = y ∧ zat (zlin3 x y one) 0 0 = one := by
  have e1 := zatN (c := zlin3 x y one) (a := 1) (b := 0) (by omega)
  have e2 := zatN (c := zlin3 x y one) (a := 0) (b := 1) (by omega)
  have e3 := zatN (c := zlin3 x y one) (a := 0) (b := 0) (by omega)
  rw [zlin3_sp] at e1 e2 e3
  exact ⟨e1, e2, e3⟩
theorem zK_det {K : Type} [Lean.Grind.CommRing K] {p : Int} {φ : Int → K} (h : zKp K p φ) (a b e c d f : Int) : φ (zdet (zlin3 (a % p) (b % p) (e % p)) (zlin3 (c % p) (d % p) (f % p)) p) = φ a * φ d - φ b * φ c := by
  unfold zdet
  rw [zat3.1, zat3.2.1, zat3.1, zat3.2.1, h.em, h.sb, h.ml, h.ml, h.em, h.em, h.em, h.em]
theorem zdet_rg2 {nx ny : Nat → Int} {p : Int} (hp : 0 < p) : 0 ≤ zdet nx ny p ∧ zdet nx ny p < p := ⟨Int.emod_nonneg _ (by omega), Int.emod_lt_of_pos _ hp⟩
/-- whether a MOVE can be, in both -/
theorem zB_can {K : Type} [Lean.Grind.CommRing K] {p : Int} {φ : Int → K} (h : zKp K p φ) (hp : 2 ≤ p) {S : zS2} (hS : S 0 10 = p) (a b e c d f : Int) : (φ a * φ d - φ b * φ c = 0 → zsmv a b e c d f p = 0 ∧ zm_canMove S a b c d = 0) ∧ (φ a * φ d - φ b * φ c ≠ 0 → zsmv a b e c d f p = 1 ∧ zm_canMove S a b c d = 1) := by
  have r := zdet_rg2 (nx := zlin3 (a % p) (b % p) (e % p)) (ny := zlin3 (c % p) (d % p) (f % p)) (p := p) (by omega)
  have k := zK_det h a b e c d f
  have em : zm_canMove S a b c d = (if zm_modulo S ((a * d) - (b * c)) = 0 then 0 else 1) := rfl
  rw [zB_mod hS (by omega)] at em
  have e2 : φ ((a * d - b * c) % p) = φ a * φ d - φ b * φ c := by rw [h.em, h.sb, h.ml, h.ml]
  have r2 : 0 ≤ (a * d - b * c) % p ∧ (a * d - b * c) % p < p := ⟨Int.emod_nonneg _ (by omega), Int.emod_lt_of_pos _ (by omega)⟩
  rw [em]
  unfold zsmv
  refine ⟨fun q => ⟨?_, ?_⟩, fun q => ⟨?_, ?_⟩⟩
  · rw [if_pos ((h.z0 r).1 (by rw [k, q]))]
  · rw [if_pos ((h.z0 r2).1 (by rw [e2, q]))]
  · rw [if_neg (fun z => q (by rw [← k, z, h.z]))]
  · rw [if_neg (fun z => q (by rw [← e2, z, h.z]))]
theorem zw_setMove_r {M : zCt} {a b e c d k q : Int} : (zw_setMove M a b e c d k q).1 28 = zlin3 (a % q) (b % q) (e % q) ∧ (zw_setMove M a b e c d k q).1 29 = zlin3 (c % q) (d % q) (k % q) ∧ (zw_setMove M a b e c d k q).1 0 17 = q := by
  refine ⟨?_, ?_, ?_⟩
  · show zset (zset (za M.1 0 17 q) 28 (zlin3 (a % q) (b % q) (e % q))) 29 (zlin3 (c % q) (d % q) (k % q)) 28 = _
    rw [zset_ne _ _ (by decide), zset_self]
  · show zset (zset (za M.1 0 17 q) 28 (zlin3 (a % q) (b % q) (e % q))) 29 (zlin3 (c % q) (d % q) (k % q)) 29 = _
    rw [zset_self]
  · show zset (zset (za M.1 0 17 q) 28 (zlin3 (a % q) (b % q) (e % q))) 29 (zlin3 (c % q) (d % q) (k % q)) 0 17 = _
    rw [zset_ne _ _ (by decide), zset_ne _ _ (by decide), za_same]
theorem zfact_28 (L : Nat) : zlK_28 zBm L := by
  intro i M S a b e c d f _ _ hR hC hI _ _ _ _ _ _
  have hB := hR.1.2.2.1
  have hp := hC.p
  have hn := hC.cn
  obtain ⟨K, iK, φ, h⟩ := zKp_ex hR.2.1
  obtain ⟨zc0, zc1⟩ := zB_can h hp.1 hB.1 a b e c d f
  obtain ⟨M2, hM2⟩ : ∃ M2, M2 = zw_setMove M a b e c d f (M.1 0 3) := ⟨_, rfl⟩
  have v2 : zVE M2 M := by rw [hM2]; exact zv_setMove
  have c2 : zCI M2 := by rw [hM2]; exact zi_setMove hC
  have r2 := zw_setMove_r (M := M) (a := a) (b := b) (e := e) (c := c) (d := d) (k := f) (q := M.1 0 3)
  rw [← hM2] at r2
  have hR2 : zBm (i + 8) M2 S := zBm_q hR hC v2 zFm.rf
  by_cases q : φ a * φ d - φ b * φ c = 0
  · obtain ⟨z1, z2⟩ := zc0 q
    have ec : zc_move M a b e c d f = (0, zw_ref M2 2 ((M2.1 1 2) + 1)) := by
      unfold zc_move
      rw [z1, ← hM2, zlet_v, zlet_v, if_pos rfl, zlet_v, zB_refuse (by decide)]
      rfl
    have em : zm_move S a b e c d f = (0, za S 2 2 ((S 2 2) + 1)) := by
      unfold zm_move zm_isRefused
      rw [z2, zlet_v, if_pos rfl, zlet_v, zlet_v]
      rfl
    rw [ec, em]
    exact ⟨rfl, zBl_ref (i := i + 8) hR2.1 c2 (by decide), zBx_ref hR2.2 _ _⟩
  · obtain ⟨z1, z2⟩ := zc1 q
    obtain ⟨N, hN⟩ : ∃ N, N = zw_keep M2 := ⟨_, rfl⟩
    obtain ⟨U, hU⟩ : ∃ U, U = zm_keeps S := ⟨_, rfl⟩
    have hK := zB_keepM (j := i + 8) hR2 c2
    rw [← hN, ← hU] at hK
    have hKs := hK.1.2.2.1
    have cN : zCI N := by rw [hN]; exact zi_keep c2
    have nr : ∀ a i : Nat, a ≠ 40 → a ≠ 41 → ¬ (a = 0 ∧ (i = 5 ∨ i = 6)) → N.1 a i = M2.1 a i := fun a i h1 h2 h3 => by rw [hN]; exact zw_keep_o h1 h2 h3
    have n28 : N.1 28 = zlin3 (a % M.1 0 3) (b % M.1 0 3) (e % M.1 0 3) := by rw [← r2.1]; exact funext fun i => nr 28 i (by decide) (by decide) (by omega)
    have n29 : N.1 29 = zlin3 (c % M.1 0 3) (d % M.1 0 3) (f % M.1 0 3) := by rw [← r2.2.1]; exact funext fun i => nr 29 i (by decide) (by decide) (by omega)
    have n17 : N.1 0 17 = M.1 0 3 := by rw [← r2.2.2]; exact nr 0 17 (by decide) (by decide) (by omega)
    have n3 : N.1 0 3 = M.1 0 3 := by rw [nr 0 3 (by decide) (by decide) (by omega), v2.p]
    have n4 : N.1 0 4 = M.1 0 4 := by rw [nr 0 4 (by decide) (by decide) (by omega), v2.n]
    obtain ⟨n, hnn⟩ : ∃ n : Nat, M.1 0 4 = n := ⟨(M.1 0 4).toNat, by omega⟩
    have u13 : U 0 13 = n := by rw [hKs.2.1, n4, hnn]
    have ec : zc_move M a b e c d f = (1, zw_moveAll N) := by
      unfold zc_move
      rw [z1, ← hM2, zlet_v, zlet_v, if_neg (by decide), zlet_v, zlet_v, ← hN]
    obtain ⟨V, hV⟩ : ∃ V, V = zfor (zm_move_L26 a b e c d f) 0 U n := ⟨_, rfl⟩
    have em : zm_move S a b e c d f = (1, V) := by
      unfold zm_move
      rw [z2, zlet_v, if_neg (by decide), zlet_v, ← hU, u13, show (((n : Int) - 1) + 1 - 0).toNat = n by omega, ← hV, zlet_v]
    rw [hnn] at hn
    have hp3 : N.1 0 3 = M.1 0 3 := n3
    have lp : (fun (t : Nat) (X : zS2) => (∀ r q : Nat, r ≠ 4 → ¬ (r = 3 ∧ (3500 ≤ q ∨ q < 150)) → X r q = U r q) ∧ ∀ k q : Nat, k < n → q < 25 → X 3 (25 * k + q) = if k < t then zmv (N.2.1 k) (zpws (N.1 28) (N.1 0 17)) (zpws (N.1 29) (N.1 0 17)) (N.1 0 17) q else N.2.1 k q) n V := by
      rw [hV]
      refine zfor_ix (I := fun (t : Nat) (X : zS2) => (∀ r q : Nat, r ≠ 4 → ¬ (r = 3 ∧ (3500 ≤ q ∨ q < 150)) → X r q = U r q) ∧ ∀ k q : Nat, k < n → q < 25 → X 3 (25 * k + q) = if k < t then zmv (N.2.1 k) (zpws (N.1 28) (N.1 0 17)) (zpws (N.1 29) (N.1 0 17)) (N.1 0 17) q else N.2.1 k q) ⟨fun _ _ _ _ => rfl, fun k q hk hq => ?_⟩ n (fun t X ht hX => ?_)
      · rw [if_neg (by omega)]
        exact (hKs.2.2 k (by rw [n4, hnn]; omega)).1 q hq
      · have es : zm_move_L26 a b e c d f (0 + (t : Int)) X = zm_moves X t a b e c d f := by
          rw [show 0 + (t : Int) = (t : Int) by omega]
          unfold zm_move_L26
          dsimp only
          rw [zlet_v]
        obtain ⟨m1, m2⟩ := zm_moves_sp h (S := X) (cv := t) (d := N.2.1 t) a b e c d f (by rw [hX.1 0 10 (by decide) (by omega), hKs.1, n3]) hp.1 (by omega) (fun q hq => by rw [hX.2 t q ht hq, if_neg (by omega)])
        rw [es]
        refine ⟨fun r q h1 h2 => by rw [m1 r q h1 (by omega)]; exact hX.1 r q h1 h2, fun k q hk hq => ?_⟩
        by_cases ek : k = t
        · rw [ek, m2 q hq, if_pos (by omega), n28, n29, n17]
        · rw [m1 3 _ (by decide) (by omega), hX.2 k q hk hq]
          by_cases l : k < t
          · rw [if_pos l, if_pos (by omega)]
          · rw [if_neg l, if_neg (by omega)]
    have mc : ∀ k : Nat, (k : Int) < N.1 0 4 → (zw_moveAll N).2.1 k = zmv (N.2.1 k) (zpws (N.1 28) (N.1 0 17)) (zpws (N.1 29) (N.1 0 17)) (N.1 0 17) := fun k hk => if_pos hk
    rw [ec, em]
    refine ⟨rfl, ?_⟩
    show zBm (i + 8) (zw_moveAll N) V
    refine zB_shelf hK (fun _ _ _ _ _ => rfl) rfl (fun r q h1 h2 h3 h4 => ?_) ⟨?_, ?_, fun k hk => ?_⟩ (fun k hk => ?_)
    · exact lp.1 r q (by omega) (by omega)
    · rw [lp.1 0 10 (by decide) (by omega)]; exact hKs.1
    · rw [lp.1 0 13 (by decide) (by omega)]; exact hKs.2.1
    · have hk4 : (k : Int) < N.1 0 4 := hk
      have hkn : k < n := by rw [n4, hnn] at hk4; omega
      obtain ⟨b1, b2, b3⟩ := hKs.2.2 k hk4
      rw [mc k hk4]
      refine ⟨fun j hj => by rw [lp.2 k j hkn hj, if_pos hkn], fun j hj => ?_, ?_⟩
      · rw [lp.1 5 k (by decide) (by omega)]; exact b2 j hj
      · rw [n28, n29, n17]
        exact zmv_top h (by rw [← n3]; exact cN.cv k hk4) b3 q
    · rw [mc k hk]
      exact zmv_fl _ _ _ _
end ZQg
