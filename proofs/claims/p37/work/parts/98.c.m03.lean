section ZWc
theorem zlst_val (F : Nat → Int) : (zlst F = -1 ∧ ∀ i : Nat, i < 17 → F (17 * i) = 0) ∨ ∃ s : Nat, s < 17 ∧ zlst F = s ∧ F (17 * s) ≠ 0 ∧ ∀ i : Nat, i < s → F (17 * i) = 0 := by
  have lp : ∀ n i : Nat, n + i = 17 → (∀ k : Nat, k < i → F (17 * k) = 0) → (zlstF F n i = -1 ∧ ∀ k : Nat, k < 17 → F (17 * k) = 0) ∨ ∃ s : Nat, s < 17 ∧ zlstF F n i = s ∧ F (17 * s) ≠ 0 ∧ ∀ k : Nat, k < s → F (17 * k) = 0 := fun n => by
    induction n with
    | zero => exact fun i hi hk => Or.inl ⟨rfl, fun k a => hk k (by omega)⟩
    | succ n ih =>
      intro i hi hk
      simp only [zlstF]
      rw [show ((i : Int) * 17).toNat = 17 * i by omega]
      by_cases q : F (17 * i) = 0
      · rw [if_neg (fun z => z q), show (i : Int) + 1 = ((i + 1 : Nat) : Int) by omega]
        exact ih (i + 1) (by omega) (fun k h1 => by
          by_cases e : k = i
          · rw [e]; exact q
          · exact hk k (by omega))
      · rw [if_pos q]
        exact Or.inr ⟨i, by omega, rfl, q, hk⟩
  exact lp 17 0 rfl (fun k hk => absurd hk (Nat.not_lt_zero _))
theorem kl_dim_iff {K I : Type} [Lean.Grind.CommRing K] {V W : (I → K) → Prop} {n : Nat} (h : kl_dim V n) (e : ∀ v, V v ↔ W v) : kl_dim W n := by
  obtain ⟨x, x1, x2, x3⟩ := h
  exact ⟨x, x1, fun t ht => (e _).1 (x2 t ht), fun v hv => x3 v ((e v).2 hv)⟩
theorem kz_Vsw {K : Type} [Lean.Grind.CommRing K] {F G : Nat → Nat → K} (v : Nat → K) (h : kz_V F G v) : kz_V G F v := by
  obtain ⟨A, B, e⟩ := h
  exact ⟨B, A, e.trans (congrArg (kp_w 153) (funext fun i => funext fun j => Lean.Grind.AddCommMonoid.add_comm _ _))⟩
theorem kz_Vlo {K : Type} [Lean.Grind.CommRing K] {F F' G : Nat → Nat → K} (hF : ∀ i j, i + j < 17 → F i j = F' i j) (v : Nat → K) (h : kz_V F G v) : kz_V F' G v := by
  obtain ⟨A, B, e⟩ := h
  refine ⟨A, B, e.trans (kz_w (fun i j hij => ?_))⟩
  show kc_mul A F i j + _ = kc_mul A F' i j + _
  rw [kz_lo (d := 17) (F := A) (F' := A) (fun _ _ _ => rfl) hF i j hij]
theorem kz_q5 {K : Type} [Lean.Grind.CommRing K] (a b d : K) : a + (b + d) = a + d + b := by grind
/-- CUT keeps what two make -/
theorem kz_Vcut {K : Type} [Lean.Grind.CommRing K] {F G G2 T : Nat → Nat → K} {c : K} (hG : ∀ i j, i + j < 17 → G i j = G2 i j + c * kc_mul T F i j) (v : Nat → K) (h : kz_V F G v) : kz_V F G2 v := by
  obtain ⟨A, B, e⟩ := h
  refine ⟨fun i j => A i j + c * kc_mul B T i j, B, e.trans (kz_w (fun i j hij => ?_))⟩
  show kc_mul A F i j + kc_mul B G i j = kc_mul (fun i j => A i j + c * kc_mul B T i j) F i j + kc_mul B G2 i j
  rw [kc_mul_ac, kc_mul_assoc]
  have e1 : kc_mul B G i j = kc_mul B G2 i j + c * kc_mul B (kc_mul T F) i j := by
    rw [kz_lo (d := 17) (F := B) (F' := B) (fun _ _ _ => rfl) hG i j hij, kc_mul_comm, kc_mul_ac]
    show kc_mul G2 B i j + c * kc_mul (kc_mul T F) B i j = _
    rw [kc_mul_comm _ B, kc_mul_comm _ B]
  rw [e1]
  exact kz_q5 _ _ _
theorem kw_unit {K : Type} [Lean.Grind.CommRing K] (hK : ka_F K) {F G : Nat → Nat → K} (h0 : F 0 0 ≠ 0 ∨ G 0 0 ≠ 0) (N i j : Nat) : kw_V N F G (kc_t 1 i j) := by
  have one : ∀ i j, i + j = 0 → kw_V (0 + 1) F G (kc_t 1 i j) := fun i j hij => by
    rw [show i = 0 by omega, show j = 0 by omega]
    rcases h0 with z | z
    · obtain ⟨v, hv⟩ := hK.2 _ z
      refine ⟨kc_t v 0 0, fun _ _ => 0, fun a b hab => ?_⟩
      rw [show a = 0 by omega, show b = 0 by omega, kc_c_mul, kc_zmul, ka_az]
      show (if 0 = 0 ∧ 0 = 0 then (1 : K) else 0) = v * F 0 0
      rw [if_pos ⟨rfl, rfl⟩, ← hv]
      exact Lean.Grind.CommSemiring.mul_comm _ _
    · obtain ⟨v, hv⟩ := hK.2 _ z
      refine ⟨fun _ _ => 0, kc_t v 0 0, fun a b hab => ?_⟩
      rw [show a = 0 by omega, show b = 0 by omega, kc_c_mul, kc_zmul, ka_za]
      show (if 0 = 0 ∧ 0 = 0 then (1 : K) else 0) = v * G 0 0
      rw [if_pos ⟨rfl, rfl⟩, ← hv]
      exact Lean.Grind.CommSemiring.mul_comm _ _
  exact kw_all one N N (i + j) (by omega) (Nat.zero_le _) i j rfl
theorem kw_un {K : Type} [Lean.Grind.CommRing K] {v : Nat → K} (hv : ∀ k, 153 ≤ k → v k = 0) : v = kp_w 153 (fun a b => v (ncol a b)) := funext fun k => by
  unfold kp_w kvec
  by_cases q : k < 153
  · rw [if_pos q]
    show v k = v (ncol (ndc k).1 (ndc k).2)
    rw [ncol_ndc]
  · rw [if_neg q, hv k (by omega)]
theorem kw_full {K : Type} [Lean.Grind.CommRing K] (hK : ka_F K) {F G : Nat → Nat → K} (h0 : F 0 0 ≠ 0 ∨ G 0 0 ≠ 0) : kl_dim (kz_V F G) 153 := by
  refine kl_dim_iff (kl_dim_e 153) (fun v => ⟨fun hv => ?_, fun ⟨A, B, e⟩ k hk => by rw [e, kz_w0 hk]⟩)
  rw [kw_un hv]
  exact kw_Vz.2 ((kw_V.sum (N := 17) (F := F) (G := G) (fun q => v (ncol (ndc q).1 (ndc q).2)) (fun q => kc_t 1 (ndc q).1 (ndc q).2) (nT 17) (fun q hq => Or.inr (kw_unit hK h0 17 _ _))).congr (fun a b hab => (kw_terms 17 (fun a b => v (ncol a b)) hab).symm))
/-- a unit has an inverse, as far as one looks -/
theorem kw_inv {K : Type} [Lean.Grind.CommRing K] (hK : ka_F K) {U : Nat → Nat → K} (h0 : U 0 0 ≠ 0) (N : Nat) : ∃ X : Nat → Nat → K, ∀ i j, i + j < N → kc_mul U X i j = kc_t 1 0 0 i j := by
  obtain ⟨A, B, e⟩ := kw_unit hK (F := U) (G := fun _ _ => 0) (Or.inl h0) N 0 0
  refine ⟨A, fun i j hij => ?_⟩
  rw [e i j hij, kc_mul_comm B, kc_zmul, ka_az, kc_mul_comm]
theorem kl_dim.rk {K : Type} [Lean.Grind.CommRing K] {V : (Nat → K) → Prop} {n : Nat} (h : kl_dim V n) : kz_rk V n := by
  obtain ⟨x, x1, x2, _⟩ := h
  exact ⟨x, x1, x2⟩
/-- the TIMES by RULES are how much is missing -/
theorem kw_run {K : Type} [Lean.Grind.CommRing K] {p : Int} {φ : Int → K} (h : zKp K p φ) (hpr : zPr p) : ∀ (n N : Nat) (st : Int) (F G o ki : Nat → Int) (sm : Int) (r : Nat), zrE p n F G → n ≤ N → zcan p F → zcan p G → 137 ≤ r → kl_dim (kz_V (kgr φ F) (kgr φ G)) r → (zrun p N st F G o ki sm).1 = sm + (153 - (r : Int))
  | 0, N, st, F, G, o, ki, sm, r, hE, hN, cF, cG, h137, hr => hE.elim
  | n + 1, 0, st, F, G, o, ki, sm, r, hE, hN, cF, cG, h137, hr => by omega
  | n + 1, N + 1, st, F, G, o, ki, sm, r, hE, hN, cF, cG, h137, hr => by
    have hp := zPr_2 hpr
    simp only [zrun]
    rcases hE with w | ⟨w, w1, w2⟩ | ⟨w, w2⟩ | ⟨w, w2⟩
    · rw [if_neg (by omega), if_neg (by omega), if_neg (by omega)]
      have e : r = 153 := by
        refine kl_dim_u h.F hr (kw_full h.F ?_)
        rcases zwh_0 w with z | z
        · refine Or.inl ?_
          rw [kgr_t (by omega)]
          exact fun y => z ((h.z0 (cF _)).1 y)
        · refine Or.inr ?_
          rw [kgr_t (by omega)]
          exact fun y => z ((h.z0 (cG _)).1 y)
      show sm = _
      omega
    · rw [if_pos w]
      obtain ⟨q1, q2, q3⟩ := zwh_1 w
      have F0 : ∀ i : Nat, i < 17 → F (17 * i) = 0 := by
        rcases zgrt_sp F with ⟨_, a⟩ | ⟨k, k1, k2, _⟩
        · exact a
        · omega
      have eF : ∀ i j, i + j < 17 → kgr φ F i j = kc_mul (kc_t 1 0 1) (kgr φ (zspl F)) i j := fun i j hij => by
        rw [kc_t_mul]
        by_cases q : 1 ≤ j
        · rw [if_pos ⟨Nat.zero_le _, q⟩, ka_om, kgr_t (by omega), kgr_t (by omega), zspl_sp F (by omega) (by omega), if_pos (by omega)]
          exact congrArg (fun k => φ (F k)) (by omega)
        · rw [if_neg (fun z => q z.2), show j = 0 by omega, kgr_t (by omega), show 17 * i + 0 = 17 * i by omega, F0 i (by omega), h.z]
      rcases zlst_val G with ⟨z, _⟩ | ⟨s, s1, s2, s3, s4⟩
      · omega
      · have hr2 := kl_dim_iff hr (fun v => ⟨kz_Vlo eF v, kz_Vlo (fun i j hij => (eF i j hij).symm) v⟩)
        have sp := kw_split h.F (F1 := kgr φ (zspl F)) (G := kgr φ G) (n := r) (r := r) (s := s) (by omega) (fun i hi => by
          rw [kgr_t (by omega), show 17 * i + 0 = 17 * i by omega, s4 i hi, h.z]) (by
          rw [kgr_t (by omega), show 17 * s + 0 = 17 * s by omega]
          exact fun y => s3 ((h.z0 (cG _)).1 y)) h137 hr2.rk hr2
        have le := sp.rk.le h.F
        rw [kw_run h hpr n N _ _ _ _ _ _ (r + s) w2 (by omega) (zspl_can (by omega) cF) cG (by omega) sp, s2]
        omega
    · rw [if_neg (by omega), if_pos w]
      exact kw_run h hpr n N _ _ _ _ _ _ r w2 (by omega) cG cF h137 (kl_dim_iff hr (fun v => ⟨kz_Vsw v, kz_Vsw v⟩))
    · rw [if_neg (by omega), if_neg (by omega), if_pos w]
      obtain ⟨q1, q2, q3, q4⟩ := zwh_3 w
      have rF := zgrt_rng F
      have rG := zgrt_rng G
      obtain ⟨x, hx⟩ : ∃ x : Nat, zgrt F = x := ⟨(zgrt F).toNat, by omega⟩
      obtain ⟨y, hy⟩ : ∃ y : Nat, zgrt G = y := ⟨(zgrt G).toNat, by omega⟩
      obtain ⟨mn, hm⟩ : ∃ m, m = zcutm F G p := ⟨_, rfl⟩
      have sp := fun (i j : Nat) (hi : i < 17) (hj : j < 17) => zcut_sp (by omega) cG hx hy (by omega) (by omega) hi hj
      rw [← hm] at sp
      have cC : zcan p (zcut F G p) := zcut_can (by omega) (Int.le_refl _) cG
      have eG2 : ∀ i j, i + j < 17 → kgr φ (zcut F G p) i j = kgr φ G i j + φ mn * kc_mul (kc_t 1 (y - x) 0) (kgr φ F) i j := fun i j hij => by
        rw [kgr_t (by omega), kgr_t (by omega), sp i j (by omega) (by omega), kc_t_mul]
        by_cases q : y - x ≤ i
        · rw [if_pos ⟨q, by omega⟩, if_pos ⟨q, Nat.zero_le _⟩, h.em, h.ad, h.ml, ka_om, kgr_t (by omega), show j - 0 = j by omega]
        · rw [if_neg (fun z => q z.1), if_neg (fun z => q z.1), ka_mz, ka_az]
      exact kw_run h hpr n N _ _ _ _ _ _ r w2 (by omega) cF cC h137 (kl_dim_iff hr (fun v => ⟨kz_Vcut (T := kc_t 1 (y - x) 0) (c := -φ mn) (fun i j hij => by
        rw [eG2 i j hij]
        exact kz_q1 _ _ _) v, kz_Vcut (T := kc_t 1 (y - x) 0) (c := φ mn) eG2 v⟩))
end ZWc
