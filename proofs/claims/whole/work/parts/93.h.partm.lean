section ZFh
theorem zm_nrmW {S : zS2} {g e X0 : Nat} (hX : X0 ≤ e) (hc : zG S g (5 * X0 + (e - X0)) ≠ 0) (hz : ∀ i : Nat, X0 < i → i ≤ e → zG S g (5 * i + (e - i)) = 0) : ∀ fu i : Nat, X0 ≤ i → i ≤ e → i - X0 < fu → zm_normal_W8 S g e fu i = Sum.inl (zfor (zm_normal_L42 g e (zm_inverse S (zG S g (5 * X0 + (e - X0))))) 0 S (e + 1))
  | 0, i, h1, h2, h3 => by omega
  | fu + 1, i, h1, h2, h3 => by
    simp only [zm_normal_W8]
    rw [if_neg (by omega), zlet_v, show ((e : Int) - (i : Int)) = ((e - i : Nat) : Int) by omega, zM_cell, zG_at S g i (e - i)]
    by_cases q : i = X0
    · rw [q, if_neg hc, zlet_v, zlet_v, show ((e : Int) + 1 - 0).toNat = e + 1 by omega]
    · rw [if_pos (hz i (by omega) h2), show (i : Int) + (-1) = ((i - 1 : Nat) : Int) by omega]
      exact zm_nrmW hX hc hz fu (i - 1) (by omega) (by omega) (by omega)
/-- the first TERM is made 1 -/
theorem zm_nrmE {K : Type} [Lean.Grind.CommRing K] {p : Int} {φ : Int → K} (h : zKp K p φ) (hpr : zPr p) {S : zS2} (hS : S 0 10 = p) {g e : Nat} (he : e ≤ 4) (hc : ∀ i j : Nat, i < 5 → j < 5 → (0 ≤ zG S g (5 * i + j) ∧ zG S g (5 * i + j) < p) ∧ (e < i + j → zG S g (5 * i + j) = 0)) (h2 : ∃ i j, i + j = e ∧ zq φ (zG S g) i j ≠ 0) : ∃ U, zm_normal S g = U ∧ (∀ x i : Nat, x ≠ 3 → U x i = S x i) ∧ (∀ q : Nat, ¬ (25 * g ≤ q ∧ q < 25 * g + 25) → U 3 q = S 3 q) ∧ (∀ i j : Nat, i < 5 → j < 5 → (0 ≤ zG U g (5 * i + j) ∧ zG U g (5 * i + j) < p) ∧ (e < i + j → zG U g (5 * i + j) = 0)) ∧ (∃ ν : K, ν ≠ 0 ∧ zq φ (zG U g) = fun i j => ν * zq φ (zG S g) i j) ∧ kL1 (zq φ (zG U g)) := by
  have hp := zPr_2 hpr
  have ze : ∀ i j, e < i + j → zq φ (zG S g) i j = 0 := fun i j hij => by
    by_cases q : i + j ≤ 4
    · rw [zq_t q, (hc i j (by omega) (by omega)).2 hij, h.z]
    · exact zq_f q
  have dg : zm_degreeOf S g = e := by
    rw [zm_degG]
    exact zT_eq h (fun i j hij => (hc i j (by omega) (by omega)).1) ze h2
  obtain ⟨X0, x1, x2, x3⟩ : ∃ X0 : Nat, X0 ≤ e ∧ zG S g (5 * X0 + (e - X0)) ≠ 0 ∧ ∀ i : Nat, X0 < i → i ≤ e → zG S g (5 * i + (e - i)) = 0 := by
    rcases zlead_sp (zG S g) (d := e) he with ⟨_, z⟩ | ⟨k, k1, _, k3, k4⟩
    · exfalso
      obtain ⟨i, j, q1, q2⟩ := h2
      rw [zq_t (by omega)] at q2
      have := z i (by omega)
      rw [show e - i = j by omega] at this
      exact q2 (by rw [this, h.z])
    · exact ⟨k, k1, k3, k4⟩
  obtain ⟨v, hv⟩ : ∃ v, v = zm_inverse S (zG S g (5 * X0 + (e - X0))) := ⟨_, rfl⟩
  have iv : φ v * φ (zG S g (5 * X0 + (e - X0))) = 1 := by
    rw [hv]
    exact zK_minv h hpr hS (hc X0 (e - X0) (by omega) (by omega)).1 x2
  have eN : zm_normal S g = zfor (zm_normal_L42 g e v) 0 S (e + 1) := by
    unfold zm_normal
    rw [dg, zlet_v]
    have w := zm_nrmW (S := S) (g := g) x1 x2 x3 6 e x1 (Nat.le_refl _) (by omega)
    rw [← hv] at w
    have w' : zm_normal_W8 S g (e : Int) 6 (e : Int) = Sum.inl (zfor (zm_normal_L42 g e v) 0 S (e + 1)) := w
    rw [w']
    rfl
  obtain ⟨f1, f2, f3⟩ := zm_triD (S := S) (p := p) (g := g) (D := e + 1) (v := fun i j => zG S g (5 * i + j) * v) (so := zm_normal_L42 g e v) (si := zm_normal_L51 g v) (by omega) hS (fun i X hi => by
    unfold zm_normal_L42
    dsimp only
    rw [zlet_v, show (((e : Int) - (i : Int)) + 1 - 0).toNat = e + 1 - i by omega]) (fun i j X hij hX hX2 hX3 => by
    unfold zm_normal_L51
    dsimp only
    rw [zlet_v, zlet_v, zM_cell, hX3, zG_at S g i j]
    exact zm_setsE hX (by omega))
  obtain ⟨V, hV⟩ : ∃ V, V = zfor (zm_normal_L42 g e v) 0 S (e + 1) := ⟨_, rfl⟩
  rw [← hV] at f1 f2 f3 eN
  have cells : ∀ i j : Nat, i < 5 → j < 5 → zG V g (5 * i + j) = if i + j < e + 1 then (zG S g (5 * i + j) * v) % p else 0 := fun i j hi hj => by
    rw [← zG_at V g i j, f3 i j hi hj]
    by_cases q : i + j < e + 1
    · rw [if_pos q, if_pos q]
    · rw [if_neg q, if_neg q, zG_at S g i j, (hc i j hi hj).2 (by omega)]
  have eq : zq φ (zG V g) = fun i j => φ v * zq φ (zG S g) i j := funext fun i => funext fun j => by
    by_cases q : i + j ≤ 4
    · rw [zq_t q, zq_t q, cells i j (by omega) (by omega)]
      by_cases y : i + j < e + 1
      · rw [if_pos y, h.em, h.ml]
        exact Lean.Grind.CommSemiring.mul_comm _ _
      · rw [if_neg y, (hc i j (by omega) (by omega)).2 (by omega), h.z, ka_mz]
    · rw [zq_f q, zq_f q, ka_mz]
  have v0 : φ v ≠ 0 := fun z => h.F.1 (by rw [← iv, z, ka_zm])
  refine ⟨V, eN, f1, f2, fun i j hi hj => ⟨?_, fun hij => ?_⟩, ⟨φ v, v0, eq⟩, e, X0, ⟨x1, ?_, fun i j hij => ?_, fun i a1 a2 => ?_⟩, ?_⟩
  · rw [cells i j hi hj]
    by_cases q : i + j < e + 1
    · rw [if_pos q]
      exact ⟨Int.emod_nonneg _ (by omega), Int.emod_lt_of_pos _ (by omega)⟩
    · rw [if_neg q]; omega
  · rw [cells i j hi hj, if_neg (by omega)]
  · rw [eq]
    intro z
    have z2 : φ v * zq φ (zG S g) X0 (e - X0) = 0 := z
    rw [zq_t (by omega), iv] at z2
    exact h.F.1 z2
  · rw [eq]
    show φ v * zq φ (zG S g) i j = 0
    rw [ze i j hij, ka_mz]
  · rw [eq]
    show φ v * zq φ (zG S g) i (e - i) = 0
    rw [zq_t (by omega), x3 i a1 a2, h.z, ka_mz]
  · rw [eq]
    show φ v * zq φ (zG S g) X0 (e - X0) = 1
    rw [zq_t (by omega)]
    exact iv
/-- the COMMON PART of the model -/
theorem kpartM {K : Type} [Lean.Grind.CommRing K] {p : Int} {φ : Int → K} (h : zKp K p φ) (hpr : zPr p) {S : zS2} (hS : S 0 10 = p) {a b : Nat} (ha : a < 140) (hb : b < 140) {f g u w hh : Nat → Nat → K} (hf : zq φ (zG S a) = f) (hg : zq φ (zG S b) = g) {n m : Nat} (dn : zm_degreeOf S a = n) (dm : zm_degreeOf S b = m) (n4 : n ≤ 4) (m4 : m ≤ 4) (f1 : ∀ i j, n < i + j → f i j = 0) (f2 : ∃ i j, i + j = n ∧ f i j ≠ 0) (g1 : ∀ i j, m < i + j → g i j = 0) (g2 : ∃ i j, i + j = m ∧ g i j ≠ 0) (hU : kUW f g u w hh) : ∃ U, zm_laysCommon S a b = U ∧ zFm S U ∧ (∀ i j : Nat, i < 5 → j < 5 → (0 ≤ zG U 143 (5 * i + j) ∧ zG U 143 (5 * i + j) < p) ∧ (4 < i + j → zG U 143 (5 * i + j) = 0)) ∧ (∃ ν : K, ν ≠ 0 ∧ zq φ (zG U 143) = fun i j => ν * hh i j) ∧ kL1 (zq φ (zG U 143)) := by
  have hp := zPr_2 hpr
  obtain ⟨e, nu, nw, em, en, ⟨h1, h2⟩, ⟨u1, u2⟩, ⟨w1, w2⟩⟩ := kUW_dg h.F hU f1 f2 g1 g2
  obtain ⟨k0, hk0⟩ : ∃ k0 : Nat, zm_laysCommon_J16 (n : Int) (m : Int) = (k0 : Int) ∧ k0 ≤ n ∧ k0 ≤ m ∧ e ≤ k0 := by
    unfold zm_laysCommon_J16
    by_cases q : m ≤ n
    · exact ⟨m, by rw [if_pos (by omega)], q, Nat.le_refl _, by omega⟩
    · exact ⟨n, by rw [if_neg (by omega)], Nat.le_refl _, by omega, by omega⟩
  obtain ⟨q, S1, l1, l2, l3⟩ := zm_loopK h hpr hS (a := a) (b := b) (by omega) (by omega) hf hg hU n4 m4 em en u1 u2 w1 w2 8 k0 S hk0.2.2.2 hk0.2.1 hk0.2.2.1 (by omega) (fun _ _ _ _ _ => rfl)
  have l1' : zm_laysCommon_W30 a b n m 8 k0 0 S = ((e : Int), q, S1) := l1
  obtain ⟨S2, hS2⟩ : ∃ S2, S2 = zm_empties S1 143 := ⟨_, rfl⟩
  have s2 : ∀ a i : Nat, S2 a i = if a = 3 ∧ 25 * 143 ≤ i ∧ i < 25 * 143 + 25 then 0 else S1 a i := by rw [hS2]; exact zm_empties_sp S1 143
  have eL : zm_laysCommon S a b = if (e : Int) = 0 then zm_sets S2 143 0 0 1 else zm_normal (zm_dividesBy (zfor (zm_laysCommon_L154 n e ((nT (nu + 1) : Nat) : Int)) 0 (zm_empties S2 142) (nw + 1)) a e) 143 := by
    unfold zm_laysCommon
    simp only [zlet_v]
    rw [dn, dm, hk0.1, l1']
    dsimp only
    rw [← hS2, show (m : Int) - (e : Int) = ((nu : Nat) : Int) by omega, zm_many_n, show ((n : Int) - (e : Int) + 1 - 0).toNat = nw + 1 by omega]
  have s210 : S2 0 10 = p := by rw [s2 0 10, if_neg (by omega), l2 0 10 (by decide) (by decide) (by decide), hS]
  rw [eL]
  by_cases e0 : e = 0
  · rw [if_pos (by omega)]
    have eS : zm_sets S2 143 0 0 1 = za S2 3 (25 * 143 + 5 * 0 + 0) (1 % p) := zm_setsE (i := 0) (j := 0) s210 (by omega)
    rw [eS]
    obtain ⟨V, hV⟩ : ∃ V, V = za S2 3 (25 * 143 + 5 * 0 + 0) (1 % p) := ⟨_, rfl⟩
    rw [← hV]
    have cells : ∀ i j : Nat, i < 5 → j < 5 → zG V 143 (5 * i + j) = if i = 0 ∧ j = 0 then 1 % p else 0 := fun i j hi hj => by
      rw [← zG_at V 143 i j, hV]
      by_cases y : i = 0 ∧ j = 0
      · rw [y.1, y.2, if_pos ⟨rfl, rfl⟩, za_same]
      · rw [if_neg y, za_ne (by omega), s2, if_pos (by omega)]
    have m1 : (1 : Int) % p = 1 := Int.emod_eq_of_lt (by omega) (by omega)
    have eq : zq φ (zG V 143) = kc_t 1 0 0 := funext fun i => funext fun j => by
      unfold kc_t
      by_cases y : i + j ≤ 4
      · rw [zq_t y, cells i j (by omega) (by omega)]
        by_cases x : i = 0 ∧ j = 0
        · rw [if_pos x, if_pos x, m1, h.o]
        · rw [if_neg x, if_neg x, h.z]
      · rw [zq_f y, if_neg (by omega)]
    have hc : hh = fun i j => hh 0 0 * kc_t 1 0 0 i j := funext fun i => funext fun j => by
      unfold kc_t
      by_cases x : i = 0 ∧ j = 0
      · rw [if_pos x, x.1, x.2]
        generalize hh 0 0 = y
        grind
      · rw [if_neg x, h1 i j (by omega), ka_mz]
    have h00 : hh 0 0 ≠ 0 := by
      obtain ⟨i, j, y1, y2⟩ := h2
      rw [show i = 0 by omega, show j = 0 by omega] at y2
      exact y2
    obtain ⟨ν, hν⟩ := h.F.2 _ h00
    refine ⟨V, rfl, fun x i y1 y2 y3 => ?_, fun i j hi hj => ⟨?_, fun hij => ?_⟩, ⟨ν, fun z => h.F.1 (by rw [← hν, z, ka_mz]), ?_⟩, 0, 0, ⟨Nat.le_refl _, ?_, fun i j hij => ?_, fun i y1 y2 => ?_⟩, ?_⟩
    · rw [hV, za_ne (by omega), s2, if_neg (by omega)]
      exact l2 x i (by omega) (by omega) (by omega)
    · rw [cells i j hi hj]
      split <;> omega
    · rw [cells i j hi hj, if_neg (by omega)]
    · rw [eq, hc]
      funext i j
      show _ = ν * (hh 0 0 * kc_t 1 0 0 i j)
      rw [show ν * (hh 0 0 * kc_t 1 0 0 i j) = (hh 0 0 * ν) * kc_t 1 0 0 i j by
        generalize hh 0 0 = y
        generalize kc_t (1 : K) 0 0 i j = z
        clear hν eq hc h00 h1 h2
        grind, hν, ka_om]
    · rw [eq]
      show kc_t (1 : K) 0 0 0 0 ≠ 0
      rw [show kc_t (1 : K) 0 0 0 0 = 1 from if_pos ⟨rfl, rfl⟩]
      exact h.F.1
    · rw [eq]
      exact if_neg (by omega)
    · rw [eq]
      exact if_neg (by omega)
    · rw [eq]
      exact if_pos ⟨rfl, rfl⟩
  · rw [if_neg (by omega)]
    obtain ⟨c0, c1, c2, c3⟩ := l3 e0
    obtain ⟨S3, hS3⟩ : ∃ S3, S3 = zm_empties S2 142 := ⟨_, rfl⟩
    have s3 : ∀ a i : Nat, S3 a i = if a = 3 ∧ 25 * 142 ≤ i ∧ i < 25 * 142 + 25 then 0 else S2 a i := by rw [hS3]; exact zm_empties_sp S2 142
    rw [← hS3]
    have s310 : S3 0 10 = p := by rw [s3, if_neg (by omega), s210]
    obtain ⟨t1, t2, t3⟩ := zm_triD (S := S3) (p := p) (g := 142) (D := nw + 1) (v := fun i j => S1 13 (nT (nu + 1) + ncol i j)) (so := zm_laysCommon_L154 n e ((nT (nu + 1) : Nat) : Int)) (si := zm_laysCommon_L166 ((nT (nu + 1) : Nat) : Int)) (by omega) s310 (fun i X hi => by
      unfold zm_laysCommon_L154
      dsimp only
      rw [zlet_v, show ((n : Int) - (e : Int) - (i : Int) + 1 - 0).toNat = nw + 1 - i by omega]) (fun i j X hij hX hX2 hX3 => by
      unfold zm_laysCommon_L166
      dsimp only
      rw [zlet_v, zlet_v, zm_term_n, show (((nT (nu + 1) : Nat) : Int) + (ncol i j : Int)).toNat = nT (nu + 1) + ncol i j by omega, hX2 13 _ (by decide), s3, if_neg (by omega), s2, if_neg (by omega)]
      exact zm_setsE hX (by omega))
    obtain ⟨S4, hS4⟩ : ∃ S4, S4 = zfor (zm_laysCommon_L154 n e ((nT (nu + 1) : Nat) : Int)) 0 S3 (nw + 1) := ⟨_, rfl⟩
    rw [← hS4] at t1 t2 t3 ⊢
    have s410 : S4 0 10 = p := by rw [t1 0 10 (by decide), s310]
    have fr4 : ∀ x i : Nat, x ≠ 13 → x ≠ 14 → x ≠ 15 → ¬ (x = 3 ∧ 3550 ≤ i) → S4 x i = S x i := fun x i y1 y2 y3 y4 => by
      have e1 : S4 x i = S3 x i := by
        by_cases z : x = 3
        · rw [z]; exact t2 i (by omega)
        · exact t1 x i z
      rw [e1, s3, if_neg (by omega), s2, if_neg (by omega)]
      exact l2 x i y1 y2 y3
    have o4 : zq φ (zG S4 142) = fun i j => c0 * w i j := by
      rw [show (fun i j => c0 * w i j) = kUn (fun k => φ (S1 13 k)) (nT (nu + 1)) (nT (nw + 1)) from funext fun i => funext fun j => (c2 i j).symm]
      funext i j
      unfold kUn
      by_cases y : i + j ≤ 4
      · rw [zq_t y, ← zG_at S4 142 i j, t3 i j (by omega) (by omega)]
        by_cases x : i + j < nw + 1
        · rw [if_pos x, if_pos (ncol_lt x), h.em]
        · have := ncol_ge (i := i) (j := j) (d := nw + 1) (by omega)
          rw [if_neg x, if_neg (by omega), s3, if_pos (by omega), h.z]
      · have := ncol_ge (i := i) (j := j) (d := nw + 1) (by omega)
        rw [zq_f y, if_neg (by omega)]
    have f4 : zq φ (zG S4 a) = kc_mul hh w := by
      rw [← hU.2.2.2.2.2.1, ← hf]
      exact zq_congr (fun k hk => fr4 3 _ (by decide) (by decide) (by decide) (by omega))
    obtain ⟨U, v1, v2, v3, v4, ν, v5, v6⟩ := zm_divE h hpr s410 (a := a) (e := e) (by omega) f4 o4 c1 h1 w1 w2 (fun i j hi hj => by
      rw [t2 _ (by omega), s3, if_neg (by omega), s2, if_pos (by omega)])
    rw [v1]
    have u10 : U 0 10 = p := by rw [v2 0 10 (by decide) (by decide) (by decide) (by decide), s410]
    obtain ⟨V, x1, x2, x3, x4, ⟨μ, x5, x6⟩, x7⟩ := zm_nrmE h hpr u10 (g := 143) (e := e) (by omega) v4 (by
      obtain ⟨i, j, y1, y2⟩ := h2
      refine ⟨i, j, y1, ?_⟩
      rw [v6]
      intro z
      rcases h.F.dom _ _ z with y | y
      · exact v5 y
      · exact y2 y)
    refine ⟨V, x1, fun x i y1 y2 y3 => ?_, fun i j hi hj => ⟨(x4 i j hi hj).1, fun hij => (x4 i j hi hj).2 (by omega)⟩, ⟨μ * ν, fun z => ?_, ?_⟩, x7⟩
    · by_cases z : x = 3
      · rw [z, x3 i (by omega), v3 i (by omega), fr4 3 i (by decide) (by decide) (by decide) (by omega)]
      · rw [x2 x i z, v2 x i z (by omega) (by omega) (by omega), fr4 x i (by omega) (by omega) (by omega) (by omega)]
    · rcases h.F.dom _ _ z with y | y
      · exact x5 y
      · exact v5 y
    · rw [x6, v6]
      funext i j
      show μ * (ν * hh i j) = μ * ν * hh i j
      exact (ka_rg4 _ _ _).symm
end ZFh
