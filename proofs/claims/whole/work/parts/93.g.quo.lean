section ZFg
/-- the equations of the division -/
theorem zm_divQ {K : Type} [Lean.Grind.CommRing K] {p : Int} {φ : Int → K} (h : zKp K p φ) (hp : 0 < p) {S : zS2} (hS : S 0 10 = p) {a e : Nat} (he : e ≤ 4) : ∃ T, zfor (zm_dividesBy_L22 a ((nT (e + 1) : Nat) : Int)) 0 (zm_addsUnknowns (zm_emptiesEquations S) 0 e 142 1) 5 = T ∧ zMf S T ∧ zMc T p ∧ ∀ x : Nat → K, zSol φ T 45 (nT (e + 1) + 1) x ↔ kc_mul (kUn x 0 (nT (e + 1))) (zq φ (zG S 142)) = fun i j => x (nT (e + 1)) * zq φ (zG S a) i j := by
  have n15 : nT (e + 1) ≤ 15 := by
    have a1 := nT_mono (show e + 1 ≤ 5 by omega)
    rw [nT_9.2.1] at a1
    exact a1
  obtain ⟨N, hN⟩ : ∃ N, N = nT (e + 1) := ⟨_, rfl⟩
  rw [← hN] at n15
  obtain ⟨z1, z2⟩ := zm_noeq (S := S)
  obtain ⟨S1, hS1⟩ : ∃ S1, S1 = zm_emptiesEquations S := ⟨_, rfl⟩
  rw [← hS1] at z1 z2
  have c1 : zMc S1 p := fun r c hr hc => by rw [z2 r c hr hc]; omega
  have s10 : S1 0 10 = p := by rw [z1 0 10 (by decide), hS]
  obtain ⟨u1, u2, u3⟩ := zm_unk h hp (fr := 0) (dg := e) (g := 142) s10 1 (by omega) (by omega) c1
  obtain ⟨S2, hS2⟩ : ∃ S2, S2 = zm_addsUnknowns S1 ((0 : Nat) : Int) e ((142 : Nat) : Int) 1 := ⟨_, rfl⟩
  rw [← hS2] at u1 u2 u3
  have s20 : S2 0 10 = p := by rw [u1 0 10 (by decide), s10]
  obtain ⟨v1, v2, v3⟩ := zm_colF (a := a) (N := N) s20 hp (by omega) u2
  obtain ⟨T, hT⟩ : ∃ T, T = zfor (zm_dividesBy_L22 a (N : Int)) 0 S2 5 := ⟨_, rfl⟩
  rw [← hT] at v1 v2 v3
  have g1 : zG S1 142 = zG S 142 := funext fun k => z1 3 _ (by decide)
  have g2 : zG S2 a = zG S a := funext fun k => (u1 3 _ (by decide)).trans (z1 3 _ (by decide))
  refine ⟨T, ?_, fun x i hx => by rw [v1 x i hx, u1 x i hx, z1 x i hx], v2, fun x => ?_⟩
  · rw [← hS1, hT, hS2, ← hN]
    rfl
  rw [g1] at u3
  rw [g2] at v3
  rw [← hN]
  have row : ∀ t, t < 45 → ka_s (fun c => φ (zMx T t c) * x c) (N + 1) = kvec (kc_mul (kUn x 0 N) (zq φ (zG S 142))) t - x N * kvec (zq φ (zG S a)) t := fun t ht => by
    show ka_s (fun c => φ (zMx T t c) * x c) N + φ (zMx T t N) * x N = _
    have e1 : ka_s (fun c => φ (zMx T t c) * x c) N = kvec (kc_mul (kUn x 0 N) (zq φ (zG S 142))) t := by
      rw [← kUn_sum]
      refine ka_s_congr _ (fun c hc => ?_)
      rw [v3 t c ht (by omega), if_neg (fun z => by omega), u3 t c ht (by omega), if_pos ⟨Nat.zero_le _, by omega⟩, z2 t c ht (by omega), h.z, h.o, Nat.sub_zero, Nat.zero_add, ka_za, ka_om]
    have e2 : φ (zMx T t N) = - kvec (zq φ (zG S a)) t := by
      rw [v3 t N ht (by omega)]
      unfold kvec
      by_cases q : t < 15
      · have dd := ndc_dg (k := t) (d := 5) (by rw [nT_9.2.1]; exact q)
        rw [if_pos ⟨rfl, q⟩, h.em, h.ng, zq_t (by omega)]
      · rw [if_neg (fun z => q z.2), u3 t N ht (by omega), if_neg (fun z => by omega), z2 t N ht (by omega), h.z, zq_f (fun z => q (by
          have := ncol_lt (i := (ndc t).1) (j := (ndc t).2) (d := 5) (by omega)
          rw [nT_9.2.1, ncol_ndc] at this
          exact this)), ka_az]
        grind
    rw [e1, e2]
    generalize kvec (kc_mul (kUn x 0 N) (zq φ (zG S 142))) t = A
    generalize kvec (zq φ (zG S a)) t = B
    generalize x N = C
    clear u3 v3 z2 v2 u2 c1 z1 u1 v1
    grind
  have d81 : ∀ i j, 8 < i + j → kc_mul (kUn x 0 N) (zq φ (zG S 142)) i j = 0 := fun i j hij => kc_zero (n := e) (m := 4) (by rw [hN]; exact kUn_dg) zq_flt i j (by omega)
  have d82 : ∀ i j, 8 < i + j → (fun i j => x N * zq φ (zG S a) i j) i j = 0 := fun i j hij => by
    show x N * zq φ (zG S a) i j = 0
    rw [zq_flt i j (by omega), ka_mz]
  rw [← kvec_all d81 d82]
  unfold zSol
  have a3 : ∀ y z : K, y - z = 0 → y = z := fun y z q => by grind
  constructor
  · intro hs t ht
    have := hs t ht
    rw [row t ht] at this
    exact a3 _ _ this
  · intro hs t ht
    rw [row t ht, hs t ht]
    exact ka_xx _
/-- the division of a POLYNOMIAL by another, but for a number -/
theorem zm_divE {K : Type} [Lean.Grind.CommRing K] {p : Int} {φ : Int → K} (h : zKp K p φ) (hpr : zPr p) {S : zS2} (hS : S 0 10 = p) {a e : Nat} (he : e ≤ 4) {w hh : Nat → Nat → K} {c0 : K} (hf : zq φ (zG S a) = kc_mul hh w) (ho : zq φ (zG S 142) = fun i j => c0 * w i j) (hc0 : c0 ≠ 0) (h1 : ∀ i j, e < i + j → hh i j = 0) {nw : Nat} (w1 : ∀ i j, nw < i + j → w i j = 0) (w2 : ∃ i j, i + j = nw ∧ w i j ≠ 0) (h143 : ∀ i j : Nat, i < 5 → j < 5 → S 3 (25 * 143 + 5 * i + j) = 0) : ∃ U, zm_dividesBy S a e = U ∧ (∀ x i : Nat, x ≠ 3 → x ≠ 13 → x ≠ 14 → x ≠ 15 → U x i = S x i) ∧ (∀ q : Nat, ¬ (25 * 143 ≤ q ∧ q < 25 * 143 + 25) → U 3 q = S 3 q) ∧ (∀ i j : Nat, i < 5 → j < 5 → (0 ≤ zG U 143 (5 * i + j) ∧ zG U 143 (5 * i + j) < p) ∧ (e < i + j → zG U 143 (5 * i + j) = 0)) ∧ ∃ ν : K, ν ≠ 0 ∧ zq φ (zG U 143) = fun i j => ν * hh i j := by
  have hp := zPr_2 hpr
  obtain ⟨T, t1, t2, t3, t4⟩ := zm_divQ h (show 0 < p by omega) hS (a := a) he
  have n15 : nT (e + 1) ≤ 15 := by
    have a1 := nT_mono (show e + 1 ≤ 5 by omega)
    rw [nT_9.2.1] at a1
    exact a1
  obtain ⟨N, hN⟩ : ∃ N, N = nT (e + 1) := ⟨_, rfl⟩
  rw [← hN] at n15 t1 t4
  have t10 : T 0 10 = p := by rw [t2 0 10 (by decide), hS]
  rw [hf, ho] at t4
  have kdg : ∀ x : Nat → K, ∀ i j, e < i + j → kUn x 0 N i j = 0 := fun x => by rw [hN]; exact kUn_dg
  rcases zm_solvesE h hpr t10 (eqs := 45) (many := N + 1) (by omega) (by omega) t3 with ⟨U, v1, v2, v3⟩ | ⟨U, v1, v2, v3, v4, v5⟩
  · exfalso
    obtain ⟨x, hx⟩ : ∃ x : Nat → K, x = fun c => if c < N then hh (ndc c).1 (ndc c).2 else c0 := ⟨_, rfl⟩
    have xN : x N = c0 := by
      rw [hx]
      show (if N < N then _ else c0) = c0
      rw [if_neg (Nat.lt_irrefl _)]
    have xu : kUn x 0 N = hh := funext fun i => funext fun j => by
      unfold kUn
      by_cases y : ncol i j < N
      · rw [if_pos y, hx]
        show (if 0 + ncol i j < N then hh (ndc (0 + ncol i j)).1 (ndc (0 + ncol i j)).2 else c0) = _
        rw [Nat.zero_add, if_pos y, ndc_ncol]
      · rw [if_neg y, h1 i j (Classical.byContradiction fun z => y (by rw [hN]; exact ncol_lt (by omega)))]
    have sl := (t4 x).2 (by
      rw [xu, xN, kc_mul_comm hh, kc_mul_c, kc_mul_comm w])
    exact hc0 (by rw [← xN]; exact v3 x sl N (by omega))
  · have v1' : zm_solves T 45 (((N : Nat) : Int) + 1) = (1, U) := v1
    have eqn := (t4 _).1 v3
    obtain ⟨x, hx⟩ : ∃ x : Nat → K, x = fun k => φ (U 13 k) := ⟨_, rfl⟩
    have xN' : φ (U 13 N) = x N := by rw [hx]
    rw [← hx, xN'] at eqn
    rw [kc_mul_comm (kUn x 0 N), kc_mul_c, kc_mul_comm w] at eqn
    have eq2 : kc_mul (fun i j => c0 * kUn x 0 N i j) w = kc_mul (fun i j => x N * hh i j) w := by
      rw [kc_mul_c, kc_mul_c]; exact eqn
    have eq3 := kc_canc h.F (w1 := w1) (w2 := w2) ⟨e + 1, fun i j hij => by
      show c0 * kUn x 0 N i j = 0
      rw [kdg x i j (by omega), ka_mz]⟩ ⟨e + 1, fun i j hij => by
      show x N * hh i j = 0
      rw [h1 i j (by omega), ka_mz]⟩ eq2
    obtain ⟨d0, hd0⟩ := h.F.2 c0 hc0
    have eq4 : kUn x 0 N = fun i j => d0 * x N * hh i j := funext fun i => funext fun j => by
      have e5 : c0 * kUn x 0 N i j = x N * hh i j := congrFun (congrFun eq3 i) j
      generalize kUn x 0 N i j = A at e5 ⊢
      generalize x N = B at e5 ⊢
      generalize hh i j = C at e5 ⊢
      have e6 : A = d0 * (c0 * A) := by
        have : d0 * (c0 * A) = (c0 * d0) * A := by grind
        rw [this, hd0, ka_om]
      rw [e6, e5]
      exact (ka_rg4 _ _ _).symm
    have d00 : d0 ≠ 0 := fun z => h.F.1 (by rw [← hd0, z, ka_mz])
    have xN0 : x N ≠ 0 := fun z => by
      obtain ⟨k, hk, hk0⟩ := v5
      by_cases y : k = N
      · rw [y] at hk0
        apply hk0
        rw [hx] at z
        exact z
      · apply hk0
        have e5 := congrFun (congrFun eq4 (ndc k).1) (ndc k).2
        unfold kUn at e5
        rw [ncol_ndc, if_pos (by omega), Nat.zero_add] at e5
        rw [hx] at e5 z
        have e6 : φ (U 13 k) = d0 * φ (U 13 N) * hh (ndc k).1 (ndc k).2 := e5
        have z2 : φ (U 13 N) = 0 := z
        rw [e6, z2, ka_mz, ka_zm]
    -- the grid
    have eD : zm_dividesBy S a e = zfor (fun (i : Int) (X : zS2) => zfor (zm_dividesBy_L112 i) 0 X (((e : Int) - i) + 1 - 0).toNat) 0 U (e + 1) := by
      have eW := zm_divW (k := e) 7 0 U (by omega) (by omega)
      have eW' : (zm_dividesBy_W98 e 1 7 0 U).2 = zfor (fun (i : Int) (X : zS2) => zfor (zm_dividesBy_L112 i) 0 X (((e : Int) - i) + 1 - 0).toNat) 0 U (e + 1) := eW
      rw [← eW']
      unfold zm_dividesBy
      simp only [zlet_v, zm_many_n]
      rw [← hN, show (4 + 1 - 0 : Int).toNat = 5 from rfl, t1, v1']
    have u10 : U 0 10 = p := by rw [v2 0 10 (by decide) (by decide) (by decide), t10]
    obtain ⟨f1, f2, f3⟩ := zm_triD (S := U) (p := p) (g := 143) (D := e + 1) (v := fun i j => U 13 (ncol i j)) (so := fun (i : Int) (X : zS2) => zfor (zm_dividesBy_L112 i) 0 X (((e : Int) - i) + 1 - 0).toNat) (si := zm_dividesBy_L112) (by omega) u10 (fun i X hi => by
      show zfor (zm_dividesBy_L112 i) 0 X (((e : Int) - (i : Int)) + 1 - 0).toNat = _
      rw [show (((e : Int) - (i : Int)) + 1 - 0).toNat = e + 1 - i by omega]) (fun i j X hij hX hX2 hX3 => by
      unfold zm_dividesBy_L112
      dsimp only
      rw [zlet_v, zlet_v, zm_term_n, Int.toNat_natCast, hX2 13 _ (by decide)]
      exact zm_setsE hX (by omega))
    obtain ⟨V, hV⟩ : ∃ V, V = zfor (fun (i : Int) (X : zS2) => zfor (zm_dividesBy_L112 i) 0 X (((e : Int) - i) + 1 - 0).toNat) 0 U (e + 1) := ⟨_, rfl⟩
    rw [← hV] at f1 f2 f3 eD
    have u3 : ∀ q : Nat, U 3 q = S 3 q := fun q => by rw [v2 3 q (by decide) (by decide) (by decide), t2 3 q (by decide)]
    have cells : ∀ i j : Nat, i < 5 → j < 5 → zG V 143 (5 * i + j) = if i + j < e + 1 then U 13 (ncol i j) % p else 0 := fun i j hi hj => by
      rw [← zG_at V 143 i j, f3 i j hi hj, u3, h143 i j hi hj]
    refine ⟨V, eD, fun y i a1 a2 a3 a4 => by rw [f1 y i a1, v2 y i a2 a3 a4, t2 y i a3], fun q hq => by rw [f2 q hq, u3], fun i j hi hj => ⟨?_, fun hij => ?_⟩, d0 * x N, fun z => ?_, ?_⟩
    · rw [cells i j hi hj]
      by_cases q : i + j < e + 1
      · rw [if_pos q]
        exact ⟨Int.emod_nonneg _ (by omega), Int.emod_lt_of_pos _ (by omega)⟩
      · rw [if_neg q]; omega
    · rw [cells i j hi hj, if_neg (by omega)]
    · rcases h.F.dom _ _ z with y | y
      · exact d00 y
      · exact xN0 y
    · rw [← eq4]
      funext i j
      unfold kUn
      by_cases q : i + j ≤ 4
      · rw [zq_t q, cells i j (by omega) (by omega)]
        by_cases y : i + j < e + 1
        · rw [if_pos y, if_pos (by rw [hN]; exact ncol_lt y), h.em, hx, Nat.zero_add]
        · have := ncol_ge (i := i) (j := j) (d := e + 1) (by omega)
          rw [if_neg y, if_neg (by omega), h.z]
      · have := ncol_ge (i := i) (j := j) (d := e + 1) (by omega)
        rw [zq_f q, if_neg (by omega)]
end ZFg
