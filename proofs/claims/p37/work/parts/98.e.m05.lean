section ZWf
theorem kw_hi {K : Type} [Lean.Grind.CommRing K] {N T : Nat} {F G P : Nat → Nat → K} (h : ∀ i j, T ≤ i + j → kw_V N F G (kc_t 1 i j)) (hP : ∀ i j, i + j < T → P i j = 0) : kw_V N F G P :=
  (kw_V.sum (N := N) (F := F) (G := G) (fun q => P (ndc q).1 (ndc q).2) (fun q => kc_t 1 (ndc q).1 (ndc q).2) (nT N) (fun q _ => by
    by_cases c : (ndc q).1 + (ndc q).2 < T
    · exact Or.inl (hP _ _ c)
    · exact Or.inr (h _ _ (by omega)))).congr (fun a b hab => (kw_terms N P hab).symm)
theorem kw_00 {K : Type} [Lean.Grind.CommRing K] (A B : Nat → Nat → K) : kc_mul A B 0 0 = A 0 0 * B 0 0 := by
  show 0 + (0 + A 0 0 * B (0 - 0) (0 - 0)) = _
  rw [ka_za, ka_za]
theorem kw_ord {K : Type} [Lean.Grind.CommRing K] {A B : Nat → Nat → K} {a b : Nat} (hA : ∀ i j, i + j < a → A i j = 0) (hB : ∀ i j, i + j < b → B i j = 0) : ∀ i j, i + j < a + b → kc_mul A B i j = 0 := fun i j hij => ka_s_zero _ (fun x hx => ka_s_zero _ (fun y hy => by
  by_cases c : x + y < a
  · rw [hA x y c, ka_zm]
  · rw [hB (i - x) (j - y) (by omega), ka_mz]))
/-- every FORM near the POINT comes from one -/
def kh_sur {K : Type} [Lean.Grind.CommRing K] (Λ : Nat → (Nat → Nat → K) → Nat → Nat → K) : Prop := ∀ D R, D ≤ 24 → (∀ i j, D < i + j → R i j = 0) → ∃ P, (∀ i j, D < i + j → P i j = 0) ∧ Λ D P = R
theorem kh_one {K : Type} [Lean.Grind.CommRing K] (hK : ka_F K) {Λ : Nat → (Nat → Nat → K) → Nat → Nat → K} (hΛ : kh_ok Λ) : Λ 0 (kc_t 1 0 0) 0 0 ≠ 0 := fun z => by
  obtain ⟨L1, L2, L3, L4⟩ := hΛ
  have d0 : ∀ i j, 0 < i + j → kc_t (1 : K) 0 0 i j = 0 := fun i j hij => if_neg (by omega)
  have z0 : Λ 0 (kc_t 1 0 0) = fun _ _ => 0 := funext fun i => funext fun j => by
    by_cases c : 0 < i + j
    · exact L1 0 _ d0 i j c
    · rw [show i = 0 by omega, show j = 0 by omega]; exact z
  have e := L2 0 24 (kc_t 1 0 0) (kc_t 1 0 0) (by omega) d0 (fun i j hij => d0 i j (by omega))
  rw [kc_1_mul, z0] at e
  have q := L4 (kc_t 1 0 0) (fun i j hij => d0 i j (by omega)) (fun i j => by
    have e2 := congrFun (congrFun e i) j
    rw [show 0 + 24 = 24 from rfl] at e2
    rw [e2, kc_zmul]) 0 0
  have q2 : (if 0 = 0 ∧ 0 = 0 then (1 : K) else 0) = 0 := q
  rw [if_pos ⟨rfl, rfl⟩] at q2
  exact hK.1 q2
/-- a line, so often -/
theorem kB_pw {K : Type} [Lean.Grind.CommRing K] (hK : ka_F K) {Λ : Nat → (Nat → Nat → K) → Nat → Nat → K} (hΛ : kh_ok Λ) {l : Nat → Nat → K} (hl : ∀ i j, 1 < i + j → l i j = 0) : ∀ t, t ≤ 24 → (∀ i j, t < i + j → kc_pw l t i j = 0) ∧ (Λ 1 l 0 0 ≠ 0 → Λ t (kc_pw l t) 0 0 ≠ 0) ∧ (Λ 1 l 0 0 = 0 → ∀ i j, i + j < t → Λ t (kc_pw l t) i j = 0) := fun t => by
  induction t with
  | zero => exact fun _ => ⟨fun i j hij => if_neg (by omega), fun _ => kh_one hK hΛ, fun _ i j hij => absurd hij (Nat.not_lt_zero _)⟩
  | succ t ih =>
    intro ht
    obtain ⟨a, b, c⟩ := ih (by omega)
    have e : Λ (t + 1) (kc_pw l (t + 1)) = kc_mul (Λ t (kc_pw l t)) (Λ 1 l) := hΛ.2.1 t 1 _ _ (by omega) a hl
    refine ⟨fun i j hij => kc_zero (n := t) (m := 1) a hl i j (by omega), fun h => ?_, fun h => ?_⟩
    · rw [e, kw_00]
      exact fun z => (hK.dom _ _ z).elim (b h) h
    · rw [e]
      exact kw_ord (c h) (fun i j hij => by rw [show i = 0 by omega, show j = 0 by omega]; exact h)
/-- sums of whole numbers -/
def kns (t : Nat → Nat) : Nat → Nat
  | 0 => 0
  | n + 1 => kns t n + t n
theorem kB_pi {K : Type} [Lean.Grind.CommRing K] (hK : ka_F K) {Λ : Nat → Nat → (Nat → Nat → K) → Nat → Nat → K} {ln : Nat → Nat → Nat → K} {t : Nat → Nat} {M : Nat → (Nat → Nat → K) → Nat → Nat → K} (hM : kh_ok M) : ∀ m, kns t m ≤ 24 → (∀ q, q < m → kh_ok (Λ q) ∧ (∀ i j, 1 < i + j → ln q i j = 0) ∧ M 1 (ln q) 0 0 ≠ 0 ∧ Λ q 1 (ln q) 0 0 = 0) → ∃ Pz : Nat → Nat → K, (∀ i j, kns t m < i + j → Pz i j = 0) ∧ M (kns t m) Pz 0 0 ≠ 0 ∧ ∀ q, q < m → ∀ i j, i + j < t q → Λ q (kns t m) Pz i j = 0 := fun m => by
  induction m with
  | zero => exact fun _ _ => ⟨kc_t 1 0 0, fun i j hij => if_neg (by have : kns t 0 = 0 := rfl; omega), kh_one hK hM, fun q hq => absurd hq (Nat.not_lt_zero _)⟩
  | succ m ih =>
    intro hs hq
    have es : kns t (m + 1) = kns t m + t m := rfl
    obtain ⟨P, p1, p2, p3⟩ := ih (by omega) (fun q h => hq q (by omega))
    obtain ⟨m1, m2, m3, m4⟩ := hq m (by omega)
    have pwM := kB_pw hK hM m2 (t m) (by omega)
    refine ⟨kc_mul P (kc_pw (ln m) (t m)), fun i j hij => kc_zero p1 pwM.1 i j (by omega), ?_, fun q h => ?_⟩
    · rw [es, hM.2.1 _ _ _ _ (by omega) p1 pwM.1, kw_00]
      exact fun z => (hK.dom _ _ z).elim p2 (pwM.2.1 m3)
    · obtain ⟨q1, q2, q3, q4⟩ := hq q h
      rw [es, q1.2.1 _ _ _ _ (by omega) p1 pwM.1]
      by_cases c : q = m
      · subst c
        intro i j hij
        exact kw_ord (a := 0) (fun i j hij => absurd hij (Nat.not_lt_zero _)) ((kB_pw hK m1 m2 (t q) (by omega)).2.2 m4) i j (by omega)
      · intro i j hij
        exact kw_ord (b := 0) (p3 q (by omega)) (fun i j hij => absurd hij (Nat.not_lt_zero _)) i j (by omega)
theorem kUn_w {K : Type} [Lean.Grind.CommRing K] {P : Nat → Nat → K} (hP : ∀ i j, 24 < i + j → P i j = 0) : kUn (kp_w 325 P) 0 325 = P := funext fun i => funext fun j => by
  unfold kUn
  by_cases q : ncol i j < 325
  · rw [if_pos q, show 0 + ncol i j = ncol i j by omega]
    unfold kp_w kvec
    rw [if_pos q, ndc_ncol]
  · rw [if_neg q, hP i j (by
      refine Classical.byContradiction fun z => q ?_
      have := ncol_lt (show i + j < 25 by omega)
      rw [kz_T17.2.2] at this
      exact this)]
/-- near a POINT, of 325 numbers -/
def kB_T {K : Type} [Lean.Grind.CommRing K] (Λ : Nat → (Nat → Nat → K) → Nat → Nat → K) (v : Nat → K) : Nat → K := kp_w 153 (Λ 24 (kUn v 0 325))
theorem kB_T_lin {K : Type} [Lean.Grind.CommRing K] {Λ : Nat → (Nat → Nat → K) → Nat → Nat → K} (hΛ : kh_ok Λ) : kl_ln (kB_T Λ) := fun c F m => funext fun j => by
  unfold kB_T
  rw [kUn_lin, hΛ.2.2.1, kz_wsum]
/-- those that lie in the ideals at the first POINTS -/
def kB_U {K : Type} [Lean.Grind.CommRing K] (Λ : Nat → Nat → (Nat → Nat → K) → Nat → Nat → K) (F G : Nat → Nat → Nat → K) (s : Nat) (v : Nat → K) : Prop := (∀ k, 325 ≤ k → v k = 0) ∧ ∀ q, q < s → kz_V (F q) (G q) (kB_T (Λ q) v)
theorem kB_U_cl {K : Type} [Lean.Grind.CommRing K] {Λ : Nat → Nat → (Nat → Nat → K) → Nat → Nat → K} {F G : Nat → Nat → Nat → K} {s : Nat} (h : ∀ q, q < s → kh_ok (Λ q)) : kl_cl (kB_U Λ F G s) := fun c X m hX => ⟨fun k hk => ka_s_zero _ (fun t ht => by rw [(hX t ht).1 k hk, ka_mz]), fun q hq => by
  rw [kB_T_lin (h q hq)]
  exact kz_Vc c _ m (fun t ht => (hX t ht).2 q hq)⟩
theorem kl_r_d {K : Type} [Lean.Grind.CommRing K] (y t : K) : y = t + (1 * y + (-1) * t) := by grind
theorem kl_r_11 {K : Type} [Lean.Grind.CommRing K] (y : K) : 1 * y + (-1) * y = 0 := by grind
/-- as many conditions as the TIMES say -/
theorem kB_dim {K : Type} [Lean.Grind.CommRing K] (hK : ka_F K) {Λ : Nat → Nat → (Nat → Nat → K) → Nat → Nat → K} {F G : Nat → Nat → Nat → K} {t : Nat → Nat} {ln : Nat → Nat → Nat → Nat → K} : ∀ s, kns t s ≤ 25 → (∀ q, q < s → kh_ok (Λ q) ∧ kh_sur (Λ q) ∧ t q ≤ 16 ∧ kl_dim (kz_V (F q) (G q)) (153 - t q)) → (∀ q q', q < s → q' < s → q ≠ q' → (∀ i j, 1 < i + j → ln q q' i j = 0) ∧ Λ q 1 (ln q q') 0 0 ≠ 0 ∧ Λ q' 1 (ln q q') 0 0 = 0) → kl_dim (kB_U Λ F G s) (325 - kns t s) := fun s => by
  induction s with
  | zero => exact fun _ _ _ => kl_dim_iff (kl_dim_e 325) (fun v => ⟨fun h => ⟨h, fun q hq => absurd hq (Nat.not_lt_zero _)⟩, fun h => h.1⟩)
  | succ s ih =>
    intro hs hq hl
    have es : kns t (s + 1) = kns t s + t s := rfl
    have ih := ih (by omega) (fun q h => hq q (by omega)) (fun q q' h h' => hl q q' (by omega) (by omega))
    obtain ⟨s1, s2, s3, s4⟩ := hq s (by omega)
    have top := fun (q : Nat) (h : q < s + 1) (N i j : Nat) (hij : t q ≤ i + j) => kw_top hK (F := F q) (G := G q) (r := 153 - t q) (by have := (hq q h).2.2.1; omega) (by omega) (hq q h).2.2.2.rk N (i := i) (j := j) (by have := (hq q h).2.2.1; omega)
    have key : ∀ y : Nat → K, (∀ k, 153 ≤ k → y k = 0) → ∃ u v, kB_U Λ F G s u ∧ kz_V (F s) (G s) v ∧ y = fun j => kB_T (Λ s) u j + v j := fun y hy => by
      obtain ⟨yy, hyy⟩ : ∃ yy : Nat → Nat → K, yy = fun a b => y (ncol a b) := ⟨_, rfl⟩
      have ey : y = kp_w 153 yy := by rw [hyy]; exact kw_un hy
      by_cases t0 : t s = 0
      · refine ⟨fun _ => 0, y, (kB_U_cl (fun q h => (hq q (by omega)).1)).z, ?_, ?_⟩
        · rw [ey]
          exact kw_Vz.2 (kw_hi (T := 0) (fun i j hij => top s (by omega) 17 i j (by omega)) (fun i j hij => absurd hij (Nat.not_lt_zero _)))
        · rw [(kB_T_lin s1).z]
          exact funext fun j => (ka_za _).symm
      · obtain ⟨P, p1, p2, p3⟩ := kB_pi hK (Λ := Λ) (ln := fun q => ln s q) (t := t) s1 s (by omega) (fun q h => ⟨(hq q (by omega)).1, (hl s q (by omega) (by omega) (by omega)).1, (hl s q (by omega) (by omega) (by omega)).2.1, (hl s q (by omega) (by omega) (by omega)).2.2⟩)
        obtain ⟨D, hD⟩ : ∃ D, D = kns t s := ⟨_, rfl⟩
        rw [← hD] at p1 p2 p3
        obtain ⟨X, hX⟩ := kw_inv hK p2 17
        obtain ⟨R, hR⟩ : ∃ R : Nat → Nat → K, R = fun i j => if i + j < t s then kc_mul yy X i j else 0 := ⟨_, rfl⟩
        obtain ⟨b, b1, b2⟩ := s2 (24 - D) R (by omega) (fun i j hij => by rw [hR]; exact if_neg (by omega))
        have Pb : ∀ i j, 24 < i + j → kc_mul P b i j = 0 := fun i j hij => kc_zero p1 b1 i j (by omega)
        have eL : ∀ q, q < s + 1 → Λ q 24 (kc_mul P b) = kc_mul (Λ q D P) (Λ q (24 - D) b) := fun q h => by
          have := (hq q h).1.2.1 D (24 - D) P b (by omega) p1 b1
          rw [show D + (24 - D) = 24 by omega] at this
          exact this
        have eT : ∀ q, q < s + 1 → kB_T (Λ q) (kp_w 325 (kc_mul P b)) = kp_w 153 (kc_mul (Λ q D P) (Λ q (24 - D) b)) := fun q h => by
          unfold kB_T
          rw [kUn_w Pb, eL q h]
        refine ⟨kp_w 325 (kc_mul P b), fun j => 1 * y j + (-1) * kB_T (Λ s) (kp_w 325 (kc_mul P b)) j, ⟨fun k hk => if_neg (by omega), fun q h => ?_⟩, ?_, funext fun j => kl_r_d _ _⟩
        · rw [eT q (by omega)]
          refine kw_Vz.2 ?_
          rw [kc_mul_comm]
          exact (kw_hi (fun i j hij => top q (by omega) 17 i j hij) (p3 q h)).mul _
        · rw [eT s (by omega), b2, ey]
          have e2 : (fun j => 1 * kp_w 153 yy j + (-1) * kp_w 153 (kc_mul (Λ s D P) R) j) = kp_w 153 (kc_mul (Λ s D P) (fun i j => 1 * kc_mul yy X i j + (-1) * R i j)) := funext fun k => by
            have e3 : kp_w 153 yy = kp_w 153 (kc_mul (Λ s D P) (kc_mul yy X)) := kz_w (fun i j hij => by
              rw [kc_mul_comm yy X, ← kc_mul_assoc, kz_lo (d := 17) (F' := kc_t 1 0 0) (G := yy) (G' := yy) (fun i j hij => hX i j hij) (fun _ _ _ => rfl) i j hij, kc_1_mul])
            rw [e3, kc_mul_comm (Λ s D P) (fun i j => 1 * kc_mul yy X i j + (-1) * R i j), kc_mul_ac, kc_mul_c, kc_mul_comm _ (Λ s D P), kc_mul_comm R]
            unfold kp_w kvec
            by_cases c : k < 153
            · rw [if_pos c, if_pos c, if_pos c]
            · rw [if_neg c, if_neg c, if_neg c, ka_mz, ka_mz, ka_az]
          rw [e2]
          refine kw_Vz.2 (kw_V.mul (kw_hi (T := t s) (fun i j hij => top s (by omega) 17 i j hij) (fun i j hij => ?_)) _)
          rw [hR]
          show 1 * kc_mul yy X i j + (-1) * (if i + j < t s then kc_mul yy X i j else 0) = 0
          rw [if_pos hij]
          exact kl_r_11 _
    obtain ⟨n, e, hn⟩ := kl_pre hK (U := kB_U Λ F G s) (V := kz_V (F s) (G s)) (Y := fun v => ∀ k, 153 ≤ k → v k = 0) (kB_T (Λ s)) (kB_T_lin s1) (kB_U_cl (fun q h => (hq q (by omega)).1)) kz_Vc ih s4 (kl_dim_e 153) (fun y => ⟨fun hy => key y hy, fun ⟨u, v, hu, hv, e⟩ k hk => by
      obtain ⟨A, B, ev⟩ := hv
      rw [e, ev]
      show kp_w 153 (Λ s 24 (kUn u 0 325)) k + kp_w 153 (fun i j => kc_mul A (F s) i j + kc_mul B (G s) i j) k = 0
      rw [kz_w0 hk, kz_w0 hk, ka_az]⟩)
    have ee : n = 325 - kns t (s + 1) := by
      have := (hq s (by omega)).2.2.1
      omega
    rw [← ee]
    exact kl_dim_iff hn (fun v => ⟨fun ⟨⟨a, b⟩, c⟩ => ⟨a, fun q h => by
      by_cases c2 : q = s
      · rw [c2]; exact c
      · exact b q (by omega)⟩, fun ⟨a, b⟩ => ⟨⟨a, fun q h => b q (by omega)⟩, b s (by omega)⟩⟩)
end ZWf
