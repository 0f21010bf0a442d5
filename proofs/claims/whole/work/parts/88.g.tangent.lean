section ZMl
/-- the lowest TERMS in the class and in the model -/
def zlwR (p n : Int) (lw : Nat → Int) (U : zS2) : Prop := U 0 10 = p ∧ ∀ j : Nat, (j : Int) ≤ n → lw j = U 9 j ∧ 0 ≤ lw j ∧ lw j < p
theorem zm_modE {S : zS2} {v p : Int} (h : S 0 10 = p) (hp : 0 < p) (hv : 0 ≤ v) : Int.tmod v p = v % p ∧ zm_modulo S (v % p) = v % p := by
  refine ⟨Int.tmod_eq_emod_of_nonneg hv, ?_⟩
  rw [zB_mod h hp, Int.emod_emod_of_dvd _ (Int.dvd_refl p)]
theorem zhorn_at {p n w : Int} {lw : Nat → Int} {U : zS2} (h : zlwR p n lw U) (hp : 0 < p) (hw : 0 ≤ w) {t : Nat} (ht : (t : Int) ≤ n) : zm_atT U t w = zhorn lw w p t := by
  have g : ∀ k : Nat, k ≤ t + 1 → zforD (zm_atT_L5 U w) t 0 k = zforD (zhorn_s lw w p) t 0 k ∧ 0 ≤ zforD (zhorn_s lw w p) t 0 k ∧ zforD (zhorn_s lw w p) t 0 k < p := fun k => by
    induction k with
    | zero => intro _; exact ⟨rfl, Int.le_refl _, hp⟩
    | succ k ih =>
      intro hk
      obtain ⟨i1, i2, i3⟩ := ih (by omega)
      obtain ⟨l1, l2, l3⟩ := h.2 (t - k) (by omega)
      have e : (((t : Int) - (k : Int)).toNat) = t - k := by omega
      have nn : 0 ≤ zforD (zhorn_s lw w p) t 0 k * w + lw (t - k) := by
        have := Int.mul_nonneg i2 hw
        omega
      have e1 : zforD (zm_atT_L5 U w) t 0 (k + 1) = zforD (zhorn_s lw w p) t 0 (k + 1) := by
        show Int.tmod (zforD (zm_atT_L5 U w) t 0 k * w + U 9 (((t : Int) - (k : Int)).toNat)) (U 0 10) = (zforD (zhorn_s lw w p) t 0 k * w + lw (((t : Int) - (k : Int)).toNat)) % p
        rw [i1, e, h.1, ← l1]
        exact Int.tmod_eq_emod_of_nonneg nn
      refine ⟨e1, ?_, ?_⟩
      · show 0 ≤ (zforD (zhorn_s lw w p) t 0 k * w + lw (((t : Int) - (k : Int)).toNat)) % p
        exact Int.emod_nonneg _ (by omega)
      · show (zforD (zhorn_s lw w p) t 0 k * w + lw (((t : Int) - (k : Int)).toNat)) % p < p
        exact Int.emod_lt_of_pos _ hp
  obtain ⟨g1, g2, g3⟩ := g (t + 1) (Nat.le_refl _)
  show zm_modulo U (zforD (zm_atT_L5 U w) t 0 ((t : Int) - (0 - 1)).toNat) = zforD (zhorn_s lw w p) t 0 ((t : Int) - -1).toNat
  rw [show ((t : Int) - (0 - 1)).toNat = t + 1 by omega, show ((t : Int) - -1).toNat = t + 1 by omega, g1, zB_mod h.1 hp, Int.emod_eq_of_lt g2 g3]
/-- what is carried -/
def zcry (lw : Nat → Int) (w p : Int) (t : Nat) : Nat → Int
  | 0 => 0
  | k + 1 => (zcry lw w p t k * w + lw (t - k)) % p
theorem zcry_rng (lw : Nat → Int) (w : Int) {p : Int} (hp : 0 < p) (t : Nat) : ∀ k, 0 ≤ zcry lw w p t k ∧ zcry lw w p t k < p
  | 0 => ⟨Int.le_refl _, hp⟩
  | k + 1 => ⟨Int.emod_nonneg _ (by omega), Int.emod_lt_of_pos _ hp⟩
theorem zdiv1_sp (lw : Nat → Int) (w p : Int) (t : Nat) (j : Nat) : zdiv1 lw w p t j = if j ≤ t then zcry lw w p t (t - j) else lw j := by
  have g : ∀ k : Nat, k ≤ t + 1 → (zforD (zdiv_s w p) t (lw, 0) k).2 = zcry lw w p t k ∧ ∀ j : Nat, (zforD (zdiv_s w p) t (lw, 0) k).1 j = if t + 1 - k ≤ j ∧ j ≤ t then zcry lw w p t (t - j) else lw j := fun k => by
    induction k with
    | zero => intro _; exact ⟨rfl, fun j => by rw [if_neg (by omega)]; rfl⟩
    | succ k ih =>
      intro hk
      obtain ⟨i1, i2⟩ := ih (by omega)
      have e : (((t : Int) - (k : Int)).toNat) = t - k := by omega
      refine ⟨?_, fun j => ?_⟩
      · show ((zforD (zdiv_s w p) t (lw, 0) k).2 * w + (zforD (zdiv_s w p) t (lw, 0) k).1 (((t : Int) - (k : Int)).toNat)) % p = (zcry lw w p t k * w + lw (t - k)) % p
        rw [i1, e, i2, if_neg (by omega)]
      · show zup (zforD (zdiv_s w p) t (lw, 0) k).1 (((t : Int) - (k : Int)).toNat) (zforD (zdiv_s w p) t (lw, 0) k).2 j = _
        rw [e, i1]
        unfold zup
        by_cases q : j = t - k
        · rw [if_pos q, if_pos (by omega), show t - j = k by omega]
        · rw [if_neg q, i2]
          by_cases q2 : t + 1 - k ≤ j ∧ j ≤ t
          · rw [if_pos q2, if_pos (by omega)]
          · rw [if_neg q2, if_neg (by omega)]
  unfold zdiv1
  rw [show ((t : Int) - -1).toNat = t + 1 by omega, (g (t + 1) (Nat.le_refl _)).2 j]
  by_cases q : j ≤ t
  · rw [if_pos q, if_pos (by omega)]
  · rw [if_neg q, if_neg (by omega)]
theorem zdiv_R {p n w : Int} {lw : Nat → Int} {U : zS2} (h : zlwR p n lw U) (hp : 0 < p) (hw : 0 ≤ w) {t : Nat} (h0 : 0 < t) (ht : (t : Int) ≤ n) : zlwR p n (zdiv1 lw w p t) (zm_divides U t w) ∧ zFm U (zm_divides U t w) := by
  -- the first loop
  have g1 : ∀ k : Nat, k ≤ t → zFm U (zforD (zm_divides_L5 w) t (0, U) k).2 ∧ (zforD (zm_divides_L5 w) t (0, U) k).1 = zcry lw w p t k ∧ ∀ j : Nat, (j : Int) ≤ n → (zforD (zm_divides_L5 w) t (0, U) k).2 9 j = if t + 1 - k ≤ j ∧ j ≤ t then zcry lw w p t (t - j + 1) else U 9 j := fun k => by
    induction k with
    | zero => intro _; exact ⟨zFm.rf, rfl, fun j _ => by rw [if_neg (by omega)]; rfl⟩
    | succ k ih =>
      intro hk
      obtain ⟨i0, i1, i2⟩ := ih (by omega)
      obtain ⟨l1, l2, l3⟩ := h.2 (t - k) (by omega)
      have e : (((t : Int) - (k : Int)).toNat) = t - k := by omega
      have c := zcry_rng lw w hp t k
      have ep : (zforD (zm_divides_L5 w) t (0, U) k).2 0 10 = p := by rw [i0.p, h.1]
      have ev : Int.tmod ((zforD (zm_divides_L5 w) t (0, U) k).2 9 (t - k) + (zforD (zm_divides_L5 w) t (0, U) k).1 * w) ((zforD (zm_divides_L5 w) t (0, U) k).2 0 10) = zcry lw w p t (k + 1) := by
        rw [i1, i2 (t - k) (by omega), if_neg (by omega), ep, ← l1]
        have nn : 0 ≤ lw (t - k) + zcry lw w p t k * w := by
          have := Int.mul_nonneg c.1 hw
          omega
        rw [Int.tmod_eq_emod_of_nonneg nn]
        show _ = (zcry lw w p t k * w + lw (t - k)) % p
        rw [Int.add_comm]
      have c1 := zcry_rng lw w hp t (k + 1)
      have e0 : zforD (zm_divides_L5 w) t (0, U) (k + 1) = (zcry lw w p t (k + 1), za (zforD (zm_divides_L5 w) t (0, U) k).2 9 (t - k) (zcry lw w p t (k + 1))) := by
        show (Int.tmod ((zforD (zm_divides_L5 w) t (0, U) k).2 9 (((t : Int) - (k : Int)).toNat) + (zforD (zm_divides_L5 w) t (0, U) k).1 * w) ((zforD (zm_divides_L5 w) t (0, U) k).2 0 10), za (zforD (zm_divides_L5 w) t (0, U) k).2 9 (((t : Int) - (k : Int)).toNat) (zm_modulo (zforD (zm_divides_L5 w) t (0, U) k).2 (Int.tmod ((zforD (zm_divides_L5 w) t (0, U) k).2 9 (((t : Int) - (k : Int)).toNat) + (zforD (zm_divides_L5 w) t (0, U) k).1 * w) ((zforD (zm_divides_L5 w) t (0, U) k).2 0 10)))) = _
        rw [e, ev, zB_mod ep hp, Int.emod_eq_of_lt c1.1 c1.2]
      rw [e0]
      refine ⟨i0.za (by omega), rfl, fun j hj => ?_⟩
      show za (zforD (zm_divides_L5 w) t (0, U) k).2 9 (t - k) (zcry lw w p t (k + 1)) 9 j = _
      by_cases q : j = t - k
      · rw [q, za_same, if_pos (by omega), show t - (t - k) + 1 = k + 1 by omega]
      · rw [za_ne (by omega), i2 j hj]
        by_cases q2 : t + 1 - k ≤ j ∧ j ≤ t
        · rw [if_pos q2, if_pos (by omega)]
        · rw [if_neg q2, if_neg (by omega)]
  obtain ⟨V, hV⟩ : ∃ V, V = (zforD (zm_divides_L5 w) t (0, U) t).2 := ⟨_, rfl⟩
  obtain ⟨a0, _, a2⟩ := g1 t (Nat.le_refl _)
  rw [← hV] at a0 a2
  have g2 : ∀ k : Nat, k ≤ t → zFm V (zfor zm_divides_L57 0 V k) ∧ ∀ j : Nat, (zfor zm_divides_L57 0 V k) 9 j = if j < k then V 9 (j + 1) else V 9 j := fun k => by
    induction k with
    | zero => intro _; exact ⟨zFm.rf, fun j => by rw [if_neg (by omega)]; rfl⟩
    | succ k ih =>
      intro hk
      obtain ⟨i0, i2⟩ := ih (by omega)
      have e0 : zfor zm_divides_L57 0 V (k + 1) = za (zfor zm_divides_L57 0 V k) 9 k ((zfor zm_divides_L57 0 V k) 9 (k + 1)) := by
        show za (zfor zm_divides_L57 0 V k) 9 ((0 + (k : Int)).toNat) ((zfor zm_divides_L57 0 V k) 9 (((0 + (k : Int)) + 1).toNat)) = _
        rw [show (0 + (k : Int)).toNat = k by omega, show ((0 + (k : Int)) + 1).toNat = k + 1 by omega]
      rw [e0]
      refine ⟨i0.za (by omega), fun j => ?_⟩
      by_cases q : j = k
      · rw [q, za_same, i2, if_neg (by omega), if_pos (by omega)]
      · rw [za_ne (by omega), i2]
        by_cases q2 : j < k
        · rw [if_pos q2, if_pos (by omega)]
        · rw [if_neg q2, if_neg (by omega)]
  obtain ⟨b0, b2⟩ := g2 t (Nat.le_refl _)
  have e : zm_divides U t w = za (zfor zm_divides_L57 0 V t) 9 t 0 := by
    show za (zfor zm_divides_L57 0 (zforD (zm_divides_L5 w) t (0, U) ((t : Int) - (1 - 1)).toNat).2 (((t : Int) - 1) + 1 - 0).toNat) 9 ((t : Int).toNat) 0 = _
    rw [show ((t : Int) - (1 - 1)).toNat = t by omega, show (((t : Int) - 1) + 1 - 0).toNat = t by omega, Int.toNat_natCast, ← hV]
  have hF : zFm U (zm_divides U t w) := by
    rw [e]
    exact (a0.tr b0).za (by omega)
  refine ⟨⟨by rw [hF.p, h.1], fun j hj => ?_⟩, hF⟩
  rw [zdiv1_sp, e]
  obtain ⟨l1, l2, l3⟩ := h.2 j hj
  by_cases q : j ≤ t
  · rw [if_pos q]
    refine ⟨?_, zcry_rng lw w hp t _⟩
    by_cases q2 : j = t
    · rw [q2, za_same, Nat.sub_self]; rfl
    · rw [za_ne (by omega), b2, if_pos (by omega), a2 (j + 1) (by omega), if_pos (by omega), show t - (j + 1) + 1 = t - j by omega]
  · rw [if_neg q, za_ne (by omega), b2, if_neg (by omega), a2 j hj, if_neg (by omega)]
    exact ⟨l1, l2, l3⟩
theorem zofd_R {p n w : Int} (hp : 0 < p) (hw : 0 ≤ w) (hwp : w ≠ p) : ∀ (k fu : Nat) (o : Int) (lw : Nat → Int) (U : zS2), zlwR p n lw U → (k : Int) + o = n → 0 ≤ o → k < fu → zlwR p n (zofdF w p n k o lw).2 (zm_oftenTangent_W73 w fu (k : Int) o U).2.2 ∧ (zofdF w p n k o lw).1 = (zm_oftenTangent_W73 w fu (k : Int) o U).2.1 ∧ zFm U (zm_oftenTangent_W73 w fu (k : Int) o U).2.2
  | 0, fu + 1, o, lw, U, h, hk, ho, _ => by
    show zlwR p n lw (if ((0 : Nat) : Int) ≤ 0 then (((0 : Nat) : Int), o, U) else _).2.2 ∧ o = (if ((0 : Nat) : Int) ≤ 0 then (((0 : Nat) : Int), o, U) else _).2.1 ∧ zFm U (if ((0 : Nat) : Int) ≤ 0 then (((0 : Nat) : Int), o, U) else _).2.2
    rw [if_pos (by decide)]
    exact ⟨h, rfl, zFm.rf⟩
  | k + 1, fu + 1, o, lw, U, h, hk, ho, hf => by
    have e1 : zm_oftenTangent_W73 w (fu + 1) ((k + 1 : Nat) : Int) o U = (if zm_atT U ((k + 1 : Nat) : Int) w = 0 then zm_oftenTangent_W73 w fu (((k + 1 : Nat) : Int) + (-1)) (o + 1) (zm_divides U ((k + 1 : Nat) : Int) w) else (((k + 1 : Nat) : Int), o, U)) := by
      show (if ((k + 1 : Nat) : Int) ≤ 0 then _ else (if zm_atT U ((k + 1 : Nat) : Int) w = 0 then zm_oftenTangent_W73 w fu (((k + 1 : Nat) : Int) + (-1)) (o + 1) (zm_divides U ((k + 1 : Nat) : Int) w) else (((k + 1 : Nat) : Int), o, U))) = _
      rw [if_neg (by omega)]
    have e2 : zofdF w p n (k + 1) o lw = (if zhorn lw w p (n - o) = 0 then zofdF w p n k (o + 1) (zdiv1 lw w p (n - o)) else (o, lw)) := rfl
    rw [e1, e2, zhorn_at h hp hw (by omega), show n - o = ((k + 1 : Nat) : Int) by omega]
    by_cases q : zhorn lw w p ((k + 1 : Nat) : Int) = 0
    · rw [if_pos q, if_pos q]
      obtain ⟨d1, d2⟩ := zdiv_R h hp hw (t := k + 1) (by omega) (by omega)
      obtain ⟨r1, r2, r3⟩ := zofd_R hp hw hwp k fu (o + 1) _ _ d1 (by omega) (by omega) (by omega)
      rw [show ((k + 1 : Nat) : Int) + (-1) = (k : Int) by omega]
      exact ⟨r1, r2, d2.tr r3⟩
    · rw [if_neg q, if_neg q]
      exact ⟨h, rfl, zFm.rf⟩
theorem zofu_R {p n : Int} {lw : Nat → Int} {U : zS2} (h : zlwR p n lw U) (h0 : ∃ j : Nat, (j : Int) ≤ n ∧ lw j ≠ 0) : ∀ (k fu : Nat) (o : Int), (k : Int) + o = n → 0 ≤ o → k + 1 < fu → (∀ j : Nat, n - o < (j : Int) → (j : Int) ≤ n → lw j = 0) → zofuF lw n k o = (zm_oftenTangent_W48 U fu (k : Int) o).2
  | 0, fu + 1, o, hk, ho, hf, hz => by
    obtain ⟨l1, _⟩ := h.2 0 (by omega)
    have hl : lw 0 ≠ 0 := fun e => by
      obtain ⟨j, j1, j2⟩ := h0
      by_cases q : j = 0
      · rw [q] at j2; exact j2 e
      · exact j2 (hz j (by omega) j1)
    show o = (if ((0 : Nat) : Int) < 0 then (((0 : Nat) : Int), o) else (if U 9 (((0 : Nat) : Int).toNat) = 0 then _ else (((0 : Nat) : Int), o))).2
    rw [if_neg (by decide), Int.toNat_natCast, ← l1, if_neg hl]
  | k + 1, fu + 1, o, hk, ho, hf, hz => by
    obtain ⟨l1, _⟩ := h.2 (k + 1) (by omega)
    have e1 : zofuF lw n (k + 1) o = if lw (k + 1) = 0 then zofuF lw n k (o + 1) else o := by
      show (if lw (n - o).toNat = 0 then zofuF lw n k (o + 1) else o) = _
      rw [show (n - o).toNat = k + 1 by omega]
    have e2 : zm_oftenTangent_W48 U (fu + 1) ((k + 1 : Nat) : Int) o = if lw (k + 1) = 0 then zm_oftenTangent_W48 U fu (k : Int) (o + 1) else (((k + 1 : Nat) : Int), o) := by
      show (if ((k + 1 : Nat) : Int) < 0 then _ else (if U 9 (((k + 1 : Nat) : Int).toNat) = 0 then zm_oftenTangent_W48 U fu (((k + 1 : Nat) : Int) + (-1)) (o + 1) else (((k + 1 : Nat) : Int), o))) = _
      rw [if_neg (by omega), Int.toNat_natCast, ← l1, show ((k + 1 : Nat) : Int) + (-1) = (k : Int) by omega]
    rw [e1, e2]
    by_cases q : lw (k + 1) = 0
    · rw [if_pos q, if_pos q]
      exact zofu_R h h0 k fu (o + 1) (by omega) (by omega) (by omega) (fun j j1 j2 => by
        by_cases z : j = k + 1
        · rw [z]; exact q
        · exact hz j (by omega) j2)
    · rw [if_neg q, if_neg q]
theorem zlow_sp (c lw : Nat → Int) (n : Nat) : ∀ j : Nat, j ≤ n → zlow c lw n j = zat c ((n : Int) - j) j := by
  have g : ∀ k : Nat, ∀ j : Nat, j < k → (zfor (zlow_s c n) 0 lw k) j = zat c ((n : Int) - j) j := fun k => by
    induction k with
    | zero => intro j hj; exact absurd hj (Nat.not_lt_zero _)
    | succ k ih =>
      intro j hj
      show zup (zfor (zlow_s c n) 0 lw k) ((0 + (k : Int)).toNat) (zat c ((n : Int) - (0 + (k : Int))) (0 + (k : Int))) j = _
      rw [show (0 + (k : Int)).toNat = k by omega, show 0 + (k : Int) = (k : Int) by omega]
      unfold zup
      by_cases q : j = k
      · rw [if_pos q, q]
      · rw [if_neg q]; exact ih j (by omega)
  intro j hj
  unfold zlow
  rw [show ((n : Int) + 1 - 0).toNat = n + 1 by omega]
  exact g (n + 1) j (by omega)
theorem zm_low {U : zS2} {c : Nat → Int} {n : Nat} (hn : n ≤ 4) (hc : ∀ i j : Nat, i + j ≤ 4 → zm_cell U 141 i j = c (5 * i + j)) : zFm U (zfor (zm_oftenTangent_L5 n) 0 U (n + 1)) ∧ ∀ j : Nat, j ≤ n → (zfor (zm_oftenTangent_L5 n) 0 U (n + 1)) 9 j = c (5 * (n - j) + j) := by
  have g : ∀ k : Nat, k ≤ n + 1 → (∀ a i : Nat, a ≠ 9 → (zfor (zm_oftenTangent_L5 n) 0 U k) a i = U a i) ∧ ∀ j : Nat, j < k → (zfor (zm_oftenTangent_L5 n) 0 U k) 9 j = c (5 * (n - j) + j) := fun k => by
    induction k with
    | zero => intro _; exact ⟨fun _ _ _ => rfl, fun j hj => absurd hj (Nat.not_lt_zero _)⟩
    | succ k ih =>
      intro hk
      obtain ⟨i0, i1⟩ := ih (by omega)
      have e0 : zfor (zm_oftenTangent_L5 n) 0 U (k + 1) = za (zfor (zm_oftenTangent_L5 n) 0 U k) 9 k (c (5 * (n - k) + k)) := by
        show za (zfor (zm_oftenTangent_L5 n) 0 U k) 9 ((0 + (k : Int)).toNat) (zm_cell (zfor (zm_oftenTangent_L5 n) 0 U k) 141 ((n : Int) - (0 + (k : Int))) (0 + (k : Int))) = _
        rw [show (0 + (k : Int)).toNat = k by omega, show 0 + (k : Int) = (k : Int) by omega, show ((n : Int) - (k : Int)) = ((n - k : Nat) : Int) by omega]
        rw [← hc (n - k) k (by omega)]
        unfold zm_cell
        rw [i0 3 _ (by decide)]
      rw [e0]
      refine ⟨fun a i ha => by rw [za_ne (by omega)]; exact i0 a i ha, fun j hj => ?_⟩
      by_cases q : j = k
      · rw [q, za_same]
      · rw [za_ne (by omega)]; exact i1 j (by omega)
  obtain ⟨g1, g2⟩ := g (n + 1) (Nat.le_refl _)
  exact ⟨fun k i a b c => g1 k i (by omega), fun j hj => g2 j (by omega)⟩
/-- how often a WAY is TANGENT, in both -/
theorem zoft_R {p w : Int} {c lw0 : Nat → Int} {U : zS2} (hp : 2 ≤ p) (hw : 0 ≤ w) (hU : U 0 10 = p) (hcan : zcan p c) (hl : zlo c (zleast c)) (hc : ∀ i j : Nat, i + j ≤ 4 → zm_cell U 141 i j = c (5 * i + j)) : (zoften c lw0 w p).1 = (zm_oftenTangent U (zleast c) w).1 ∧ zFm U (zm_oftenTangent U (zleast c) w).2 ∧ ∀ i j : Nat, i + j ≤ 4 → zm_cell (zm_oftenTangent U (zleast c) w).2 141 i j = c (5 * i + j) := by
  have hr := zleast_rng c
  obtain ⟨n, hn⟩ : ∃ n : Nat, (n : Int) = zleast c := ⟨(zleast c).toNat, by omega⟩
  obtain ⟨f1, f2⟩ := zm_low (U := U) (c := c) (n := n) (by omega) hc
  obtain ⟨V, hV⟩ : ∃ V, V = zfor (zm_oftenTangent_L5 n) 0 U (n + 1) := ⟨_, rfl⟩
  rw [← hV] at f1 f2
  have hVc : ∀ W : zS2, zFm V W → (∀ i : Nat, W 3 i = V 3 i) → ∀ i j : Nat, i + j ≤ 4 → zm_cell W 141 i j = c (5 * i + j) := fun W _ h3 i j hij => by
    rw [← hc i j hij]
    unfold zm_cell
    rw [h3, hV]
    have : ∀ k : Nat, ∀ a i : Nat, a ≠ 9 → (zfor (zm_oftenTangent_L5 n) 0 U k) a i = U a i := fun k => by
      induction k with
      | zero => intro a i _; rfl
      | succ k ih =>
        intro a i ha
        show za (zfor (zm_oftenTangent_L5 n) 0 U k) 9 _ _ a i = _
        rw [za_ne (fun q => ha q.1)]; exact ih a i ha
    exact this _ _ _ (by decide)
  have hR : zlwR p n (zlow c lw0 n) V := ⟨by rw [f1.p, hU], fun j hj => by
    have e := zlow_sp c lw0 n j (by omega)
    rw [show ((n : Int) - (j : Int)) = ((n - j : Nat) : Int) by omega, zatN (by omega)] at e
    rw [e, f2 j (by omega)]
    exact ⟨rfl, hcan _⟩⟩
  have em : zm_oftenTangent U (zleast c) w = (if w = p then ((zm_oftenTangent_W48 V 8 n 0).2, V) else ((zm_oftenTangent_W73 w 8 n 0 V).2.1, (zm_oftenTangent_W73 w 8 n 0 V).2.2)) := by
    rw [← hn]
    unfold zm_oftenTangent
    show (if w = (zfor (zm_oftenTangent_L5 n) 0 U ((n : Int) + 1 - 0).toNat) 0 10 then _ else _) = _
    rw [show ((n : Int) + 1 - 0).toNat = n + 1 by omega, ← hV, hR.1]
    rfl
  have ec : zoften c lw0 w p = (if w = p then (zofuF (zlow c lw0 n) n n 0, zlow c lw0 n) else zofdF w p n n 0 (zlow c lw0 n)) := by
    unfold zoften zofL
    rw [← hn, show ((n : Int) - 0).toNat = n by omega]
  rw [em, ec]
  by_cases q : w = p
  · rw [if_pos q, if_pos q]
    refine ⟨?_, f1, hVc V zFm.rf (fun _ => rfl)⟩
    refine zofu_R hR ?_ n 8 0 (by omega) (by omega) (by omega) (fun j a b => by omega)
    obtain ⟨⟨i, j, h1, h2, h3⟩, _⟩ := hl
    refine ⟨j, by omega, ?_⟩
    have e := zlow_sp c lw0 n j (by omega)
    rw [show ((n : Int) - (j : Int)) = ((n - j : Nat) : Int) by omega, zatN (by omega), show n - j = i by omega] at e
    rw [e]; exact h3
  · rw [if_neg q, if_neg q]
    obtain ⟨r1, r2, r3⟩ := zofd_R (n := (n : Int)) (by omega) hw q n 8 0 _ V hR (by omega) (by omega) (by omega)
    refine ⟨r2, f1.tr r3, hVc _ r3 (fun i => ?_)⟩
    have : ∀ (fu : Nat) (t o : Int) (W : zS2) (a i : Nat), a ≠ 9 → (zm_oftenTangent_W73 w fu t o W).2.2 a i = W a i := fun fu => by
      induction fu with
      | zero => intro t o W a i _; rfl
      | succ fu ih =>
        intro t o W b i hb
        have k1 : ∀ (m : Nat) (X : zS2), (zfor zm_divides_L57 0 X m) b i = X b i := fun m X => by
          induction m with
          | zero => rfl
          | succ m ihm =>
            show za (zfor zm_divides_L57 0 X m) 9 _ _ b i = _
            rw [za_ne (fun q => hb q.1)]; exact ihm
        have k2 : ∀ m : Nat, (zforD (zm_divides_L5 w) t (0, W) m).2 b i = W b i := fun m => by
          induction m with
          | zero => rfl
          | succ m ihm =>
            show za (zforD (zm_divides_L5 w) t (0, W) m).2 9 _ _ b i = _
            rw [za_ne (fun q => hb q.1)]; exact ihm
        have e1 : zm_oftenTangent_W73 w (fu + 1) t o W = (if t ≤ 0 then (t, o, W) else (if zm_atT W t w = 0 then zm_oftenTangent_W73 w fu (t + (-1)) (o + 1) (zm_divides W t w) else (t, o, W))) := rfl
        rw [e1]
        by_cases a : t ≤ 0
        · rw [if_pos a]
        · rw [if_neg a]
          by_cases c : zm_atT W t w = 0
          · rw [if_pos c, ih _ _ _ _ _ hb]
            show za (zfor zm_divides_L57 0 (zforD (zm_divides_L5 w) t (0, W) (t - (1 - 1)).toNat).2 ((t - 1) + 1 - 0).toNat) 9 t.toNat 0 b i = _
            rw [za_ne (fun q => hb q.1), k1, k2]
          · rw [if_neg c]
    exact this _ _ _ _ _ _ (by decide)
theorem ztan_W {M : zCt} {S : zS2} (hC : zCI M) {cv pt k what : Int} (hcan : zcan (M.1 0 3) (zLk M cv pt)) (hl : zlo (zLk M cv pt) (zleast (zLk M cv pt))) (hS0 : S 0 10 = M.1 0 3) : ∀ (fu : Nat) (n a w : Int) (N : zCt) (U : zS2), zVE N M → N.1 20 = zLk M cv pt → N.1 0 13 = M.1 0 3 → zFm S U → (∀ i j : Nat, i + j ≤ 4 → zm_cell U 141 i j = zLk M cv pt (5 * i + j)) → 0 ≤ w →
    ∀ d : Nat,
    (∃ r N' U', zc_tangent_W46 k what (fu + d) n a w N = .inl (r, N') ∧ zm_tangent_W59 k what (zleast (zLk M cv pt)) fu n a w U = .inl (r, U') ∧ zVE N' M ∧ zFm S U') ∨ (∃ n' a' w' w2 N' U', zc_tangent_W46 k what (fu + d) n a w N = .inr (n', a', w2, N') ∧ zm_tangent_W59 k what (zleast (zLk M cv pt)) fu n a w U = .inr (n', a', w', U') ∧ zVE N' M ∧ zFm S U') ∨ (fu : Int) + w ≤ M.1 0 3 + 1
  | 0, n, a, w, N, U, hN, h20, h13, hU, hc, hw, d => by
    by_cases q : w ≤ M.1 0 3 + 1
    · exact Or.inr (Or.inr (by omega))
    · refine Or.inr (Or.inl ⟨n, a, w, w, N, U, ?_, rfl, hN, hU⟩)
      cases d with
      | zero => rfl
      | succ d =>
        show (if N.1 0 3 < w then Sum.inr (n, a, w, N) else _) = _
        rw [if_pos (by rw [hN.p]; omega)]
  | fu + 1, n, a, w, N, U, hN, h20, h13, hU, hc, hw, d => by
    have hp := hC.p
    by_cases q : M.1 0 3 < w
    · refine Or.inr (Or.inl ⟨n, a, w, w, N, U, ?_, ?_, hN, hU⟩)
      · rw [show fu + 1 + d = (fu + d) + 1 by omega]
        show (if N.1 0 3 < w then Sum.inr (n, a, w, N) else _) = _
        rw [if_pos (by rw [hN.p]; omega)]
      · show (if U 0 10 < w then Sum.inr (n, a, w, U) else _) = _
        rw [if_pos (by rw [hU.p, hS0]; omega)]
    · obtain ⟨o1, o2, o3⟩ := zoft_R (lw0 := N.1 21) (w := w) hp.1 hw (by rw [hU.p, hS0]) hcan hl hc
      obtain ⟨r, hr⟩ : ∃ r, r = (zoften (zLk M cv pt) (N.1 21) w (M.1 0 3)).1 := ⟨_, rfl⟩
      obtain ⟨N', hN'⟩ : ∃ N', N' = zw_often N (zoften (zLk M cv pt) (N.1 21) w (M.1 0 3)).2 := ⟨_, rfl⟩
      obtain ⟨U', hU'⟩ : ∃ U', U' = (zm_oftenTangent U (zleast (zLk M cv pt)) w).2 := ⟨_, rfl⟩
      have ec : zc_tangent_W46 k what ((fu + d) + 1) n a w N = (if r = 0 then zc_tangent_W46 k what (fu + d) n a (w + 1) N' else (if n = k then (if what = 0 then .inl (w, N') else .inl (r, N')) else zc_tangent_W46 k what (fu + d) (n + 1) (a + r) (w + 1) N')) := by
        rw [hr, hN']
        show (if N.1 0 3 < w then _ else zlet ((zoften (N.1 20) (N.1 21) w (N.1 0 13)).1) (fun z64 => zlet (zw_often N (zoften (N.1 20) (N.1 21) w (N.1 0 13)).2) _)) = _
        rw [if_neg (by rw [hN.p]; exact q), h20, h13]
        rfl
      have em : zm_tangent_W59 k what (zleast (zLk M cv pt)) (fu + 1) n a w U = (if r = 0 then zm_tangent_W59 k what (zleast (zLk M cv pt)) fu n a (w + 1) U' else (if n = k then (if what = 0 then .inl (w, U') else .inl (r, U')) else zm_tangent_W59 k what (zleast (zLk M cv pt)) fu (n + 1) (a + r) (w + 1) U')) := by
        rw [hr, o1, hU']
        show (if U 0 10 < w then _ else _) = _
        rw [if_neg (by rw [hU.p, hS0]; exact q)]
        rfl
      have n1 : zVE N' M := by rw [hN']; exact zv_often.tr hN
      have n20 : N'.1 20 = zLk M cv pt := by
        rw [hN', ← h20]
        exact zset_ne N.1 (zoften (N.1 20) (N.1 21) w (M.1 0 3)).2 (show 20 ≠ 21 by decide)
      have n13 : N'.1 0 13 = M.1 0 3 := by
        rw [hN', ← h13]
        exact congrFun (zset_ne N.1 (zoften (zLk M cv pt) (N.1 21) w (N.1 0 13)).2 (show 0 ≠ 21 by decide)) 13
      rw [← hU'] at o2 o3
      rw [show fu + 1 + d = (fu + d) + 1 by omega, ec, em]
      by_cases z : r = 0
      · rw [if_pos z, if_pos z]
        rcases ztan_W hC hcan hl hS0 fu n a (w + 1) N' U' n1 n20 n13 (hU.tr o2) o3 (by omega) d with y | y | y
        · exact Or.inl y
        · exact Or.inr (Or.inl y)
        · exact Or.inr (Or.inr (by omega))
      · rw [if_neg z, if_neg z]
        by_cases z2 : n = k
        · rw [if_pos z2, if_pos z2]
          by_cases z3 : what = 0
          · rw [if_pos z3, if_pos z3]
            exact Or.inl ⟨w, N', U', rfl, rfl, n1, hU.tr o2⟩
          · rw [if_neg z3, if_neg z3]
            exact Or.inl ⟨r, N', U', rfl, rfl, n1, hU.tr o2⟩
        · rw [if_neg z2, if_neg z2]
          rcases ztan_W hC hcan hl hS0 fu (n + 1) (a + r) (w + 1) N' U' n1 n20 n13 (hU.tr o2) o3 (by omega) d with y | y | y
          · exact Or.inl y
          · exact Or.inr (Or.inl y)
          · exact Or.inr (Or.inr (by omega))
theorem zfact_13 (L : Nat) : zlK_13 zBm L := by
  intro i M S a1 a2 a3 a4 _ _ hR hC hI _ _ _ _
  have hB := hR.1.2.2.1
  have hp := hC.p
  obtain ⟨e1, e2⟩ := zm_asked hB (cv := a1) (pt := a2)
  by_cases hw0 : a4 < 0 ∨ 1 < a4 ∨ a3 < -1 ∨ ¬ ((0 ≤ a1 ∧ a1 < M.1 0 4) ∧ zpt a2 (M.1 0 3))
  · have ec : ∃ N, zc_tangent M a1 a2 a3 a4 = (-1, N) ∧ zVE N M := by
      unfold zc_tangent
      by_cases c1 : a4 < 0
      · exact ⟨M, by rw [if_pos c1], zVE.rf⟩
      by_cases c2 : 1 < a4
      · exact ⟨M, by rw [if_neg c1, if_pos c2], zVE.rf⟩
      by_cases c3 : a3 < -1
      · exact ⟨M, by rw [if_neg c1, if_neg c2, if_pos c3], zVE.rf⟩
      obtain ⟨N, d1, d2, d3⟩ := zc_look0 hC (cv := a1) (pt := a2) (hw0.elim (fun q => absurd q c1) (fun q => q.elim (fun q => absurd q c2) (fun q => q.elim (fun q => absurd q c3) id)))
      exact ⟨N, by rw [if_neg c1, if_neg c2, if_neg c3, d1]; rfl, d2⟩
    have em : zm_tangent S a1 a2 a3 a4 = (-1, S) := by
      unfold zm_tangent
      rw [e1, e2]
      by_cases c0 : 0 ≤ a1 ∧ a1 < M.1 0 4
      · rw [bI_t c0]
        by_cases c1 : zpt a2 (M.1 0 3)
        · rw [bI_t c1]
          rw [zlet_v, if_neg (by decide), zlet_v, if_neg (by decide)]
          by_cases c2 : a3 < -1
          · rw [if_pos c2]
          · rw [if_neg c2, zB_isIn, if_neg (by
              rcases hw0 with q | q | q | q
              · omega
              · omega
              · exact absurd q c2
              · exact absurd ⟨c0, c1⟩ q)]
            rfl
        · rw [bI_f c1]; rfl
      · rw [bI_f c0]; rfl
    obtain ⟨N, ec1, ec2⟩ := ec
    rw [ec1, em]
    exact ⟨rfl, zBm_q hR hC ec2 zFm.rf⟩
  · have c1 : ¬ a4 < 0 := fun q => hw0 (Or.inl q)
    have c2 : ¬ 1 < a4 := fun q => hw0 (Or.inr (Or.inl q))
    have c3 : ¬ a3 < -1 := fun q => hw0 (Or.inr (Or.inr (Or.inl q)))
    have h : (0 ≤ a1 ∧ a1 < M.1 0 4) ∧ zpt a2 (M.1 0 3) := Classical.byContradiction fun q => hw0 (Or.inr (Or.inr (Or.inr q)))
    obtain ⟨N, d1, d2, d3, d20, d13, _⟩ := zc_look hC h.1 h.2
    obtain ⟨o1, o2, o3, o4⟩ := zB_order hB hR.2 hC h.1 h.2
    have hv := zval_least hB hR.2 hC h.1 h.2
    have hval := zB_val hB hR.2 h.1 h.2.1
    have hr := zleast_rng (zLk M a1 a2)
    have ec : zc_tangent M a1 a2 a3 a4 = (if zleast (zLk M a1 a2) = 0 then (-1, N) else zsum (zc_tangent_W46 a3 a4 35 0 0 0 N) (fun r46 => r46) (fun q46 => (fun (w46 : Int) (t46 : Int) (q46 : Int) (M46 : zCt) => (if a3 = -1 then (if a4 = 0 then (w46, M46) else (t46, M46)) else (-1, M46))) q46.1 q46.2.1 q46.2.2.1 q46.2.2.2)) := by
      unfold zc_tangent
      rw [if_neg c1, if_neg c2, if_neg c3, d1]
      show (if zleast (N.1 20) = 0 then (-1, N) else zsum (zc_tangent_W46 a3 a4 35 0 0 0 N) (fun r46 => r46) (fun q46 => (fun (w46 : Int) (t46 : Int) (q46 : Int) (M46 : zCt) => (if a3 = -1 then (if a4 = 0 then (w46, M46) else (t46, M46)) else (-1, M46))) q46.1 q46.2.1 q46.2.2.1 q46.2.2.2)) = _
      rw [d20]
    have em : zm_tangent S a1 a2 a3 a4 = (if 1 ≤ zleast (zLk M a1 a2) then zsum (zm_tangent_W59 a3 a4 (zleast (zLk M a1 a2)) 34 0 0 0 (zm_orderAt S a1 a2).2) (fun r59 => r59) (fun q59 => (fun (n59 : Int) (a59 : Int) (w59 : Int) (S59 : zS2) => (if a3 = -1 then (if a4 = 0 then (n59, S59) else (a59, S59)) else (-1, S59))) q59.1 q59.2.1 q59.2.2.1 q59.2.2.2) else (-1, S)) := by
      unfold zm_tangent
      rw [e1, e2, bI_t h.1, bI_t h.2]
      rw [zlet_v, if_neg (by decide), zlet_v, if_neg (by decide), if_neg c3, zB_isIn, if_pos (by omega)]
      rw [zlet_v, if_neg (by decide), zlet_v, zlet_v, hval, o2]
      by_cases z : 1 ≤ zleast (zLk M a1 a2)
      · rw [if_pos z, if_pos (hv.2 z)]
      · rw [if_neg z, if_neg (fun y => z (hv.1 y))]
    rw [ec, em]
    by_cases z : 1 ≤ zleast (zLk M a1 a2)
    · rw [if_neg (by omega), if_pos z]
      rcases ztan_W (S := S) hC (k := a3) (what := a4) (zLk_can (by omega)) o4 hB.1 34 0 0 0 N (zm_orderAt S a1 a2).2 d2 d20 d13 o1 o3 (by decide) 1 with ⟨r, N', U', y1, y2, y3, y4⟩ | ⟨n', a', w', w2, N', U', y1, y2, y3, y4⟩ | y
      · rw [y1, y2]
        exact ⟨rfl, zBm_q hR hC y3 y4⟩
      · rw [y1, y2]
        show (if a3 = -1 then (if a4 = 0 then (n', N') else (a', N')) else (-1, N')).1 = (if a3 = -1 then (if a4 = 0 then (n', U') else (a', U')) else (-1, U')).1 ∧ zBm (i + 8) (if a3 = -1 then (if a4 = 0 then (n', N') else (a', N')) else (-1, N')).2 (if a3 = -1 then (if a4 = 0 then (n', U') else (a', U')) else (-1, U')).2
        by_cases z1 : a3 = -1
        · rw [if_pos z1, if_pos z1]
          by_cases z2 : a4 = 0
          · rw [if_pos z2, if_pos z2]; exact ⟨rfl, zBm_q hR hC y3 y4⟩
          · rw [if_neg z2, if_neg z2]; exact ⟨rfl, zBm_q hR hC y3 y4⟩
        · rw [if_neg z1, if_neg z1]; exact ⟨rfl, zBm_q hR hC y3 y4⟩
      · omega
    · rw [if_pos (by omega), if_neg z]
      exact ⟨rfl, zBm_q hR hC d2 zFm.rf⟩
end ZMl
