section ZMa
theorem zsk_b {n : Int} {T : Nat → Int} {a : Int} (h : zby n T a = 32) : zsk n T a = zsk n T (a + 1) := by
  have ha := zby_in (n := n) (T := T) (a := a) (by omega)
  unfold zsk
  rw [show (n - a).toNat = (n - (a + 1)).toNat + 1 by omega]
  show (if zby n T a = 10 ∨ zby n T a = 32 then zskF n T (n - (a + 1)).toNat (a + 1) else a) = _
  rw [if_pos (Or.inr h)]
theorem zsk_1 {n : Int} {T : Nat → Int} {a : Int} (h : zby n T a = 32) (h1 : ¬ (zby n T (a + 1) = 10 ∨ zby n T (a + 1) = 32)) : zsk n T a = a + 1 := (zsk_b h).trans (zsk_at h1)
theorem ztk_yk {n : Int} {T : Nat → Int} {S : Nat → Nat → Int} {sg k : Int} (hk : zsk n T (S 0 0) = k) (h : zby n T k = sg) : ztk n T sg S = (1, zsr S (k + 1) (S 0 1) (S 0 2)) := by
  unfold ztk
  rw [hk, if_pos h]
theorem ztk_nk {n : Int} {T : Nat → Int} {S : Nat → Nat → Int} {sg k : Int} (hk : zsk n T (S 0 0) = k) (h : zby n T k ≠ sg) : ztk n T sg S = (0, zsr S k (S 0 1) (S 0 2)) := by
  unfold ztk
  rw [hk, if_neg h]
  unfold zskS
  rw [hk]
theorem zxp_yk {n : Int} {T : Nat → Int} {S : Nat → Nat → Int} {sg k : Int} (hk : zsk n T (S 0 0) = k) (h : zby n T k = sg) : zxp n T sg S = (1, zsr S (k + 1) (S 0 1) (S 0 2)) := by
  unfold zxp
  rw [ztk_yk hk h]
  exact if_neg (show ¬ (1 : Int) = 0 by decide)
theorem zwe_st {n : Int} {T : Nat → Int} {a : Int} (h : 97 ≤ zby n T a ∧ zby n T a ≤ 122) : zwe n T a = zwe n T (a + 1) := by
  have ha := zby_in (n := n) (T := T) (a := a) (by omega)
  unfold zwe
  rw [show (n - a).toNat = (n - (a + 1)).toNat + 1 by omega]
  show (if 97 ≤ zby n T a ∧ zby n T a ≤ 122 then zweF n T (n - (a + 1)).toNat (a + 1) else a) = _
  rw [if_pos h]
theorem zwe_no {n : Int} {T : Nat → Int} {a : Int} (h : ¬ (97 ≤ zby n T a ∧ zby n T a ≤ 122)) : zwe n T a = a := by
  unfold zwe
  cases (n - a).toNat with
  | zero => rfl
  | succ k => exact if_neg h
theorem zwd_w5 {n : Int} {T : Nat → Int} {a : Int} (i : Nat) (hl : zlen i = 5) (h : ∀ j : Nat, j < 5 → zby n T (a + j) = zchr i j) (hr : ∀ j : Nat, j < 5 → 97 ≤ zchr i j ∧ zchr i j ≤ 122) (h5 : zby n T (a + 5) = 32) : zwd n T i a = 1 := by
  have g0 := h 0 (by omega)
  have g1 := h 1 (by omega)
  have g2 := h 2 (by omega)
  have g3 := h 3 (by omega)
  have g4 := h 4 (by omega)
  rw [show a + ((0 : Nat) : Int) = a by omega] at g0
  have e : zwe n T a = a + 5 := by
    rw [zwe_st (by rw [g0]; exact hr 0 (by omega)), zwe_st (by rw [show a + 1 = a + ((1 : Nat) : Int) from rfl, g1]; exact hr 1 (by omega)), show a + 1 + 1 = a + 2 by omega, zwe_st (by rw [show a + 2 = a + ((2 : Nat) : Int) from rfl, g2]; exact hr 2 (by omega)), show a + 2 + 1 = a + 3 by omega, zwe_st (by rw [show a + 3 = a + ((3 : Nat) : Int) from rfl, g3]; exact hr 3 (by omega)), show a + 3 + 1 = a + 4 by omega, zwe_st (by rw [show a + 4 = a + ((4 : Nat) : Int) from rfl, g4]; exact hr 4 (by omega)), show a + 4 + 1 = a + 5 by omega, zwe_no (by rw [h5]; omega)]
  unfold zwd
  rw [e, hl, if_pos (by omega)]
  show zwdF n T i a 5 0 = 1
  unfold zwdF
  rw [if_pos (show zby n T (a + 0) = zchr i (0 : Int).toNat by rw [Int.add_zero]; exact g0)]
  unfold zwdF
  rw [if_pos (show zby n T (a + (0 + 1)) = zchr i (0 + 1 : Int).toNat from g1)]
  unfold zwdF
  rw [if_pos (show zby n T (a + (0 + 1 + 1)) = zchr i (0 + 1 + 1 : Int).toNat from g2)]
  unfold zwdF
  rw [if_pos (show zby n T (a + (0 + 1 + 1 + 1)) = zchr i (0 + 1 + 1 + 1 : Int).toNat from g3)]
  unfold zwdF
  rw [if_pos (show zby n T (a + (0 + 1 + 1 + 1 + 1)) = zchr i (0 + 1 + 1 + 1 + 1 : Int).toNat from g4)]
  rfl
/-- a SUM of the law's text -/
theorem zrs_q {p : Int} (hpr : zPr p) (hp : 1 < p ∧ p ≤ 7) {d : Nat → Nat → Int} (hd : ∀ a b : Nat, 0 ≤ d a b ∧ d a b < p) (hz : ∀ a b : Nat, (4 : Int) < (a : Int) + b → d a b = 0) {n : Int} {T : Nat → Int} {X : List Int} {S : Nat → Nat → Int} (h3 : S 0 3 = p) (ht : zSd n T (S 0 0) (32 :: (zts d 25 ++ 59 :: X))) :
    ∃ R, zrs n T S = (1, R) ∧ R 0 0 = S 0 0 + 1 + (zts d 25).length ∧ R 0 3 = p ∧ R 0 4 = S 0 4 ∧ zcan p (R 20) ∧ zflt (R 20) ∧ (∀ i j : Nat, i + j ≤ 4 → R 20 (5 * i + j) = d i j) ∧ zKs S R := by
  obtain ⟨K, iK, φ, h⟩ := zKp_ex hpr
  obtain ⟨t0, ht⟩ := zSd.c ht
  have er : zts d 25 = [48] ++ zrr d 25 := zts_rr d 25 (Nat.le_refl _)
  rw [er] at ht ⊢
  obtain ⟨t1, ht⟩ := zSd.c ht
  have ht : zSd n T (S 0 0 + 1 + 1) (zrr d 25 ++ 59 :: X) := ht
  have tA := zrr_hd 25 _ ht
  obtain ⟨k, ek⟩ : ∃ k, k = S 0 0 := ⟨_, rfl⟩
  rw [← ek] at t0 t1 ht tA ⊢
  rw [show k + 1 + 1 = k + 2 by omega] at ht tA
  have hin : k + 2 + (zrr d 25).length < n := by
    have z := (zSd.c (zSd.app ht).2).1
    exact (zby_in (n := n) (T := T) (by rw [z]; decide)).2
  have hk0 := (zby_in (n := n) (T := T) (a := k) (by omega)).1
  have sk : zsk n T k = k + 1 := zsk_1 t0 (by omega)
  obtain ⟨S0, eS0⟩ : ∃ S0, S0 = zbg n T 0 S := ⟨_, rfl⟩
  have ez : S0 = zbg2 0 (0, zsr (zbg1 0 S) (k + 1) (zbg1 0 S 0 1) (zbg1 0 S 0 2)) := by
    rw [eS0]
    unfold zbg
    rw [ztk_nk (k := k + 1) (by show zsk n T (S 0 0) = _; rw [← ek]; exact sk) (by omega)]
  have S00 : S0 0 0 = k + 1 := by rw [ez]; rfl
  have S02 : S0 2 0 = 0 := by rw [ez]; rfl
  have S03 : S0 0 3 = p := by rw [eS0, zbg_num n T 0 S (by decide)]; exact h3
  have S04 : S0 0 4 = S 0 4 := by rw [eS0, zbg_num n T 0 S (by decide)]
  obtain ⟨o1, o2⟩ := zbg_own (n := n) (T := T) (o := 0) (S := S) (by decide)
  have S020 : S0 20 = zone 0 := by rw [eS0]; exact o1
  have S070 : S0 70 = zone 1 := by rw [eS0]; exact o2
  have S0k : ∀ j, j ≠ 0 → j ≠ 2 → j ≠ 20 → j ≠ 70 → S0 j = S j := fun j j0 j2 j20 j70 => by rw [eS0]; exact zbg_k n T 0 S j0 j2 j20 j70
  obtain ⟨B, u1, u2, u3, u4, u5⟩ := zF_num h hp.1 (n := n) (T := T) (S := S0) (u := 1) (a := 0) (b := 0) (c := 0) (by omega) S03 (by rw [S070]; exact zone_c1 hp.1) (by rw [S070]; exact zq_1 h) (by omega) (by rw [S00]; exact t1) (by rw [S00, show k + 1 + 1 = k + 2 by omega]; exact Or.inr tA)
  have B0 : B 0 0 = k + 2 := by rw [u2, S00]; omega
  have B20 : B 20 = zone 0 := (u5.2.2 20 (by decide) (by decide) (by decide) (by decide) (by decide)).trans S020
  have B2 : B 2 = S0 2 := u5.2.2 2 (by decide) (by decide) (by decide) (by decide) (by decide)
  obtain ⟨R, x1, x2, x3, x4, x5, x6, x7, x8⟩ := zsumK h hp hd hz 25 (Nat.le_refl _) n.toNat B (zq φ (B 20)) (by omega) (u5.1.trans S03) (by rw [B2]; exact S02) (by rw [B20]; exact fun k => by rw [zone_0]; omega) (by rw [B20]; exact fun i j _ _ _ => zone_0 _) rfl (by rw [B0]; exact ht)
  refine ⟨R, ?_, ?_, x3, x4.trans (u5.2.1.trans S04), x5, x6, fun i j hij => ?_, fun j j0 j2 j4 j5 j6 j20 j70 => (x8 j j0 j2 j4 j5 j6 j20 j70).trans ((u5.2.2 j j0 j4 j5 j6 j70).trans (S0k j j0 j2 j20 j70))⟩
  · unfold zrs
    rw [← eS0, show (n + 1 - 0).toNat = n.toNat + 1 by omega, zrsF_go u1, x1]
  · rw [x2, B0, List.length_append]
    show _ = k + 1 + ((1 + (zrr d 25).length : Nat) : Int)
    omega
  · have z := congrFun (congrFun x7 i) j
    rw [zq_t hij, B20, u3, zq_one h, zPm_at d (by omega) (by omega) 25 (Nat.le_refl _), if_pos (by omega), h.z] at z
    refine h.ij (x5 _) (hd i j) ?_
    rw [z]
    unfold kc_t
    split <;> grind
end ZMa
