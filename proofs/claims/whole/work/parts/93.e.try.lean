section ZFe
theorem ka_s_split {K : Type} [Lean.Grind.CommRing K] (g : Nat → K) (r : Nat) : ∀ k : Nat, ka_s g (r + k) = ka_s g r + ka_s (fun t => g (r + t)) k
  | 0 => (ka_az _).symm
  | k + 1 => by
    show ka_s g (r + k) + g (r + k) = ka_s g r + (ka_s (fun t => g (r + t)) k + g (r + k))
    rw [ka_s_split g r k]; exact Lean.Grind.Semiring.add_assoc _ _ _
/-- unknowns as a POLYNOMIAL -/
def kUn {K : Type} [Lean.Grind.CommRing K] (x : Nat → K) (off N : Nat) : Nat → Nat → K := fun i j => if ncol i j < N then x (off + ncol i j) else 0
theorem kUn_dg {K : Type} [Lean.Grind.CommRing K] {x : Nat → K} {off d : Nat} : ∀ i j, d < i + j → kUn x off (nT (d + 1)) i j = 0 := fun i j h => if_neg (by
  have := ncol_ge (i := i) (j := j) (d := d + 1) (by omega)
  omega)
theorem kUn_sum {K : Type} [Lean.Grind.CommRing K] (x : Nat → K) (off N : Nat) (g : Nat → Nat → K) (t : Nat) : ka_s (fun c => kvec (kc_mul (kc_t 1 (ndc c).1 (ndc c).2) g) t * x (off + c)) N = kvec (kc_mul (kUn x off N) g) t := by
  unfold kvec
  rw [kc_sum_t g (N := N) (P := kUn x off N) (fun i j hij => if_neg (by omega))]
  refine ka_s_congr _ (fun c hc => ?_)
  have e : kUn x off N (ndc c).1 (ndc c).2 = x (off + c) := by
    unfold kUn
    rw [ncol_ndc, if_pos hc]
  rw [e]; exact Lean.Grind.CommSemiring.mul_comm _ _
theorem kvec_all {K : Type} [Lean.Grind.CommRing K] {F G : Nat → Nat → K} (hF : ∀ i j, 8 < i + j → F i j = 0) (hG : ∀ i j, 8 < i + j → G i j = 0) : (∀ t, t < 45 → kvec F t = kvec G t) ↔ F = G := by
  constructor
  · intro h
    funext i j
    by_cases q : i + j ≤ 8
    · have := h (ncol i j) (by
        have := ncol_lt (i := i) (j := j) (d := 9) (by omega)
        rw [nT_9.1] at this
        exact this)
      unfold kvec at this
      rw [ndc_ncol] at this
      exact this
    · rw [hF i j (by omega), hG i j (by omega)]
  · intro h t _
    rw [h]
/-- the equations of one k -/
theorem zm_tryE {K : Type} [Lean.Grind.CommRing K] {p : Int} {φ : Int → K} (h : zKp K p φ) (hp : 0 < p) {S : zS2} (hS : S 0 10 = p) {d1 d2 a b : Nat} (h1 : d1 ≤ 3) (h2 : d2 ≤ 3) : ∃ T, zm_addsUnknowns (zm_addsUnknowns (zm_emptiesEquations S) 0 d1 a 1) (nT (d1 + 1)) d2 b (-1) = T ∧ zMf S T ∧ zMc T p ∧ ∀ x : Nat → K, zSol φ T 45 (nT (d1 + 1) + nT (d2 + 1)) x ↔ kc_mul (kUn x 0 (nT (d1 + 1))) (zq φ (zG S a)) = kc_mul (kUn x (nT (d1 + 1)) (nT (d2 + 1))) (zq φ (zG S b)) := by
  have n10 : nT (d1 + 1) ≤ 10 ∧ nT (d2 + 1) ≤ 10 := by
    have a1 := nT_mono (show d1 + 1 ≤ 4 by omega)
    have a2 := nT_mono (show d2 + 1 ≤ 4 by omega)
    have : nT 4 = 10 := by decide
    omega
  obtain ⟨N1, hN1⟩ : ∃ N1, N1 = nT (d1 + 1) := ⟨_, rfl⟩
  obtain ⟨N2, hN2⟩ : ∃ N2, N2 = nT (d2 + 1) := ⟨_, rfl⟩
  rw [← hN1, ← hN2] at n10
  obtain ⟨z1, z2⟩ := zm_noeq (S := S)
  obtain ⟨S1, hS1⟩ : ∃ S1, S1 = zm_emptiesEquations S := ⟨_, rfl⟩
  rw [← hS1] at z1 z2
  have c1 : zMc S1 p := fun r c hr hc => by rw [z2 r c hr hc]; omega
  have s10 : S1 0 10 = p := by rw [z1 0 10 (by decide), hS]
  obtain ⟨u1, u2, u3⟩ := zm_unk h hp (fr := 0) (dg := d1) (g := a) s10 1 (by omega) (by omega) c1
  obtain ⟨S2, hS2⟩ : ∃ S2, S2 = zm_addsUnknowns S1 ((0 : Nat) : Int) d1 a 1 := ⟨_, rfl⟩
  rw [← hS2] at u1 u2 u3
  have s20 : S2 0 10 = p := by rw [u1 0 10 (by decide), s10]
  obtain ⟨v1, v2, v3⟩ := zm_unk h hp (fr := N1) (dg := d2) (g := b) s20 (-1) (by omega) (by omega) u2
  obtain ⟨T, hT⟩ : ∃ T, T = zm_addsUnknowns S2 (N1 : Int) d2 b (-1) := ⟨_, rfl⟩
  rw [← hT] at v1 v2 v3
  have ga : zG S1 a = zG S a := funext fun k => z1 3 _ (by decide)
  have gb : zG S2 b = zG S b := funext fun k => (u1 3 _ (by decide)).trans (z1 3 _ (by decide))
  refine ⟨T, by rw [← hS1, show (0 : Int) = ((0 : Nat) : Int) from rfl, ← hS2, ← hN1, hT], fun x i hx => by rw [v1 x i hx, u1 x i hx, z1 x i hx], v2, fun x => ?_⟩
  rw [ga] at u3
  rw [gb] at v3
  have row : ∀ t, t < 45 → ka_s (fun c => φ (zMx T t c) * x c) (N1 + N2) = kvec (kc_mul (kUn x 0 N1) (zq φ (zG S a))) t - kvec (kc_mul (kUn x N1 N2) (zq φ (zG S b))) t := fun t ht => by
    rw [ka_s_split]
    have e1 : ka_s (fun c => φ (zMx T t c) * x c) N1 = kvec (kc_mul (kUn x 0 N1) (zq φ (zG S a))) t := by
      rw [← kUn_sum]
      refine ka_s_congr _ (fun c hc => ?_)
      rw [v3 t c ht (by omega), if_neg (fun z => by omega), u3 t c ht (by omega), if_pos ⟨Nat.zero_le _, by omega⟩, z2 t c ht (by omega), h.z, h.o, Nat.sub_zero, Nat.zero_add]
      grind
    have e2 : ka_s (fun c => φ (zMx T t (N1 + c)) * x (N1 + c)) N2 = - kvec (kc_mul (kUn x N1 N2) (zq φ (zG S b))) t := by
      rw [← kUn_sum]
      have e3 : ka_s (fun c => φ (zMx T t (N1 + c)) * x (N1 + c)) N2 = ka_s (fun c => (-1) * (kvec (kc_mul (kc_t 1 (ndc c).1 (ndc c).2) (zq φ (zG S b))) t * x (N1 + c))) N2 := ka_s_congr _ (fun c hc => by
        rw [v3 t (N1 + c) ht (by omega), if_pos ⟨by omega, by omega⟩, u3 t (N1 + c) ht (by omega), if_neg (fun z => by omega), z2 t (N1 + c) ht (by omega), h.z, show N1 + c - N1 = c by omega, h.ng, h.o]
        grind)
      rw [e3, ka_s_mul]; grind
    rw [e1, e2]; grind
  rw [← hN1, ← hN2]
  have d81 : ∀ i j, 8 < i + j → kc_mul (kUn x 0 N1) (zq φ (zG S a)) i j = 0 := fun i j hij => kc_zero (n := d1) (m := 4) (by rw [hN1]; exact kUn_dg) zq_flt i j (by omega)
  have d82 : ∀ i j, 8 < i + j → kc_mul (kUn x N1 N2) (zq φ (zG S b)) i j = 0 := fun i j hij => kc_zero (n := d2) (m := 4) (by rw [hN2]; exact kUn_dg) zq_flt i j (by omega)
  rw [← kvec_all d81 d82]
  unfold zSol
  constructor
  · intro hs t ht
    have := hs t ht
    rw [row t ht] at this
    have a3 : ∀ y z : K, y - z = 0 → y = z := fun y z q => by grind
    exact a3 _ _ this
  · intro hs t ht
    rw [row t ht, hs t ht]; exact ka_xx _
/-- the DEGREES of the couple -/
theorem kUW_dg {K : Type} [Lean.Grind.CommRing K] (hK : ka_F K) {f g u w h : Nat → Nat → K} {n m : Nat} (hU : kUW f g u w h) (f1 : ∀ i j, n < i + j → f i j = 0) (f2 : ∃ i j, i + j = n ∧ f i j ≠ 0) (g1 : ∀ i j, m < i + j → g i j = 0) (g2 : ∃ i j, i + j = m ∧ g i j ≠ 0) : ∃ e nu nw, nu + e = m ∧ nw + e = n ∧ ((∀ i j, e < i + j → h i j = 0) ∧ ∃ i j, i + j = e ∧ h i j ≠ 0) ∧ ((∀ i j, nu < i + j → u i j = 0) ∧ ∃ i j, i + j = nu ∧ u i j ≠ 0) ∧ ((∀ i j, nw < i + j → w i j = 0) ∧ ∃ i j, i + j = nw ∧ w i j ≠ 0) := by
  obtain ⟨pu, pw, ph, u0, w0, ef, eg, al⟩ := hU
  obtain ⟨nu, u1, u2⟩ := kc_ed pu u0
  obtain ⟨nw, w1, w2⟩ := kc_ed pw w0
  obtain ⟨e, h1, h2⟩ := kc_ed ph (Classical.byContradiction fun z => by
    obtain ⟨x, y, _, hxy⟩ := f2
    apply hxy
    rw [ef]
    have cz : h = fun _ _ => 0 := funext fun x => funext fun y => Classical.byContradiction fun q => z ⟨x, y, q⟩
    rw [cz]
    exact kc_zmul w x y)
  have ex1 := kc_exact hK h1 w1 h2 w2
  have ex2 := kc_exact hK h1 u1 h2 u2
  rw [← ef] at ex1
  rw [← eg] at ex2
  have z1 : ∀ i j, e + nw < i + j → f i j = 0 := by rw [ef]; exact kc_zero h1 w1
  have z2 : ∀ i j, e + nu < i + j → g i j = 0 := by rw [eg]; exact kc_zero h1 u1
  have q1 := kc_ed_u z1 ex1 f1 f2
  have q2 := kc_ed_u z2 ex2 g1 g2
  exact ⟨e, nu, nw, by omega, by omega, ⟨h1, h2⟩, ⟨u1, u2⟩, ⟨w1, w2⟩⟩
/-- the least k that goes -/
theorem zm_loopK {K : Type} [Lean.Grind.CommRing K] {p : Int} {φ : Int → K} (h : zKp K p φ) (hpr : zPr p) {S0 : zS2} (hS0 : S0 0 10 = p) {a b : Nat} {f g u w hh : Nat → Nat → K} (ha : a < 238) (hb : b < 238) (hf : zq φ (zG S0 a) = f) (hg : zq φ (zG S0 b) = g) (hU : kUW f g u w hh) {n m e nu nw : Nat} (n4 : n ≤ 4) (m4 : m ≤ 4) (em : nu + e = m) (en : nw + e = n) (u1 : ∀ i j, nu < i + j → u i j = 0) (u2 : ∃ i j, i + j = nu ∧ u i j ≠ 0) (w1 : ∀ i j, nw < i + j → w i j = 0) (w2 : ∃ i j, i + j = nw ∧ w i j ≠ 0) : ∀ (fu k : Nat) (S : zS2), e ≤ k → k ≤ n → k ≤ m → k < fu + e → (∀ x i : Nat, x ≠ 13 → x ≠ 14 → x ≠ 15 → S x i = S0 x i) → ∃ q S', zm_laysCommon_W30 a b n m fu k 0 S = ((e : Int), q, S') ∧ (∀ x i : Nat, x ≠ 13 → x ≠ 14 → x ≠ 15 → S' x i = S0 x i) ∧ (e ≠ 0 → ∃ c0 : K, c0 ≠ 0 ∧ (∀ i j, kUn (fun k => φ (S' 13 k)) (nT (nu + 1)) (nT (nw + 1)) i j = c0 * w i j) ∧ ∀ k, k < nT (nu + 1) + nT (nw + 1) → 0 ≤ S' 13 k ∧ S' 13 k < p)
  | 0, k, S, h1, h2, h3, h4, hS => by omega
  | fu + 1, k, S, h1, h2, h3, h4, hS => by
    have hp := zPr_2 hpr
    by_cases k0 : k = 0
    · have e0 : zm_laysCommon_W30 a b n m (fu + 1) k 0 S = ((k : Int), 0, S) := by
        simp only [zm_laysCommon_W30]
        rw [if_pos (by omega)]
      exact ⟨0, S, by rw [e0, show k = e by omega], hS, fun z => by omega⟩
    · have s10 : S 0 10 = p := by rw [hS 0 10 (by decide) (by decide) (by decide), hS0]
      have fa : zq φ (zG S a) = f := by rw [← hf]; exact zq_congr (fun q _ => hS 3 _ (by decide) (by decide) (by decide))
      have fb : zq φ (zG S b) = g := by rw [← hg]; exact zq_congr (fun q _ => hS 3 _ (by decide) (by decide) (by decide))
      obtain ⟨T, t1, t2, t3, t4⟩ := zm_tryE h (show 0 < p by omega) (S := S) (d1 := m - k) (d2 := n - k) (a := a) (b := b) s10 (by omega) (by omega)
      rw [fa, fb] at t4
      have n10 : nT (m - k + 1) + nT (n - k + 1) ≤ 20 := by
        have a1 := nT_mono (show m - k + 1 ≤ 4 by omega)
        have a2 := nT_mono (show n - k + 1 ≤ 4 by omega)
        have : nT 4 = 10 := by decide
        omega
      have es : zm_laysCommon_W30 a b n m (fu + 1) k 0 S = (if (zm_solves T 45 ((nT (m - k + 1) + nT (n - k + 1) : Nat) : Int)).1 = 0 then zm_laysCommon_W30 a b n m fu ((k : Int) + (-1)) (zm_solves T 45 ((nT (m - k + 1) + nT (n - k + 1) : Nat) : Int)).1 (zm_solves T 45 ((nT (m - k + 1) + nT (n - k + 1) : Nat) : Int)).2 else zm_laysCommon_W30 a b n m fu k (zm_solves T 45 ((nT (m - k + 1) + nT (n - k + 1) : Nat) : Int)).1 (zm_solves T 45 ((nT (m - k + 1) + nT (n - k + 1) : Nat) : Int)).2) := by
        simp only [zm_laysCommon_W30]
        rw [if_neg (by omega), if_pos trivial, show (m : Int) - (k : Int) = ((m - k : Nat) : Int) by omega, show (n : Int) - (k : Int) = ((n - k : Nat) : Int) by omega]
        simp only [zlet_v, zm_many_n]
        rw [t1, show ((nT (m - k + 1) : Nat) : Int) + ((nT (n - k + 1) : Nat) : Int) = ((nT (m - k + 1) + nT (n - k + 1) : Nat) : Int) by omega]
      have t10 : T 0 10 = p := by rw [t2 0 10 (by decide), s10]
      rw [es]
      rcases zm_solvesE h hpr t10 (eqs := 45) (many := nT (m - k + 1) + nT (n - k + 1)) (by omega) (by omega) t3 with ⟨U, v1, v2, v3⟩ | ⟨U, v1, v2, v3, v4, v5⟩
      · have v1' : zm_solves T 45 ((nT (m - k + 1) + nT (n - k + 1) : Nat) : Int) = (0, U) := v1
        rw [v1', if_pos rfl]
        by_cases ke : k = e
        · exfalso
          obtain ⟨i, j, q1, q2⟩ := u2
          have eu : m - k = nu := by omega
          have ew : n - k = nw := by omega
          -- the couple itself
          obtain ⟨x, hx⟩ : ∃ x : Nat → K, x = fun c => if c < nT (nu + 1) then u (ndc c).1 (ndc c).2 else w (ndc (c - nT (nu + 1))).1 (ndc (c - nT (nu + 1))).2 := ⟨_, rfl⟩
          have xu : kUn x 0 (nT (nu + 1)) = u := funext fun i => funext fun j => by
            unfold kUn
            by_cases y : ncol i j < nT (nu + 1)
            · rw [if_pos y, hx]
              show (if 0 + ncol i j < nT (nu + 1) then u (ndc (0 + ncol i j)).1 (ndc (0 + ncol i j)).2 else _) = _
              rw [Nat.zero_add, if_pos y, ndc_ncol]
            · rw [if_neg y, u1 i j (Classical.byContradiction fun z => y (ncol_lt (by omega)))]
          have xw : kUn x (nT (nu + 1)) (nT (nw + 1)) = w := funext fun i => funext fun j => by
            unfold kUn
            by_cases y : ncol i j < nT (nw + 1)
            · rw [if_pos y, hx]
              show (if nT (nu + 1) + ncol i j < nT (nu + 1) then _ else w (ndc (nT (nu + 1) + ncol i j - nT (nu + 1))).1 (ndc (nT (nu + 1) + ncol i j - nT (nu + 1))).2) = _
              rw [if_neg (by omega), show nT (nu + 1) + ncol i j - nT (nu + 1) = ncol i j by omega, ndc_ncol]
            · rw [if_neg y, w1 i j (Classical.byContradiction fun z => y (ncol_lt (by omega)))]
          rw [eu, ew] at t4 v3
          have sl := (t4 x).2 (by
            rw [xu, xw, hU.2.2.2.2.2.1, hU.2.2.2.2.2.2.1, ← kc_mul_assoc, ← kc_mul_assoc, kc_mul_comm u hh, kc_mul_assoc, kc_mul_comm w hh, kc_mul_assoc, kc_mul_comm u w])
          have z := v3 x sl (ncol i j) (by have := ncol_lt (i := i) (j := j) (d := nu + 1) (by omega); omega)
          rw [hx] at z
          have z2 : (if ncol i j < nT (nu + 1) then u (ndc (ncol i j)).1 (ndc (ncol i j)).2 else w (ndc (ncol i j - nT (nu + 1))).1 (ndc (ncol i j - nT (nu + 1))).2) = 0 := z
          rw [if_pos (ncol_lt (by omega)), ndc_ncol] at z2
          exact q2 z2
        · rw [show (k : Int) + (-1) = ((k - 1 : Nat) : Int) by omega]
          exact zm_loopK h hpr hS0 ha hb hf hg hU n4 m4 em en u1 u2 w1 w2 fu (k - 1) U (by omega) (by omega) (by omega) (by omega) (fun x i a1 a2 a3 => by rw [v2 x i a1 a2 a3, t2 x i a2, hS x i a1 a2 a3])
      · have v1' : zm_solves T 45 ((nT (m - k + 1) + nT (n - k + 1) : Nat) : Int) = (1, U) := v1
        rw [v1', if_neg (show ¬ ((1 : Int), U).1 = 0 from by show ¬ (1 : Int) = 0; decide)]
        have eqn := (t4 _).1 v3
        obtain ⟨c, pc, e1, e2⟩ := hU.2.2.2.2.2.2.2 (kUn (fun k => φ (U 13 k)) 0 (nT (m - k + 1))) (kUn (fun k => φ (U 13 k)) (nT (m - k + 1)) (nT (n - k + 1))) ⟨m - k + 1, fun i j hij => kUn_dg i j (by omega)⟩ ⟨n - k + 1, fun i j hij => kUn_dg i j (by omega)⟩ eqn
        have cn0 : ∃ i j, c i j ≠ 0 := Classical.byContradiction fun z => by
          have cz : c = fun _ _ => 0 := funext fun x => funext fun y => Classical.byContradiction fun q => z ⟨x, y, q⟩
          obtain ⟨t, ht, ht0⟩ := v5
          apply ht0
          by_cases y : t < nT (m - k + 1)
          · have e3 := congrFun (congrFun e1 (ndc t).1) (ndc t).2
            rw [cz, kc_zmul] at e3
            unfold kUn at e3
            rw [ncol_ndc, if_pos y, Nat.zero_add] at e3
            exact e3
          · have e3 := congrFun (congrFun e2 (ndc (t - nT (m - k + 1))).1) (ndc (t - nT (m - k + 1))).2
            rw [cz, kc_zmul] at e3
            unfold kUn at e3
            rw [ncol_ndc, if_pos (by omega), show nT (m - k + 1) + (t - nT (m - k + 1)) = t by omega] at e3
            exact e3
        obtain ⟨nc, c1, c2⟩ := kc_ed pc cn0
        have ex := kc_exact h.F c1 u1 c2 u2
        rw [← e1] at ex
        have le : nc + nu ≤ m - k := by
          obtain ⟨i, j, q1, q2⟩ := ex
          exact Classical.byContradiction fun z => q2 (kUn_dg i j (by omega))
        have ke : k = e := by omega
        have nc0 : nc = 0 := by omega
        have cc : c = kc_t (c 0 0) 0 0 := funext fun x => funext fun y => by
          unfold kc_t
          by_cases z : x = 0 ∧ y = 0
          · rw [if_pos z, z.1, z.2]
          · rw [if_neg z]; exact c1 x y (by omega)
        have er : zm_laysCommon_W30 a b n m fu k 1 U = ((k : Int), 1, U) := by
          cases fu with
          | zero => rfl
          | succ fu =>
            simp only [zm_laysCommon_W30]
            rw [if_neg (by omega), if_neg (by decide)]
        refine ⟨1, U, by show zm_laysCommon_W30 a b n m fu k 1 U = _; rw [er, ke], fun x i a1 a2 a3 => by rw [v2 x i a1 a2 a3, t2 x i a2, hS x i a1 a2 a3], fun _ => ⟨c 0 0, fun z => ?_, fun i j => ?_, fun t ht => v4 t (by rw [show m - k = nu by omega, show n - k = nw by omega]; exact ht)⟩⟩
        · obtain ⟨i, j, q1, q2⟩ := c2
          rw [show i = 0 by omega, show j = 0 by omega] at q2
          exact q2 z
        · have e3 := congrFun (congrFun e2 i) j
          rw [show m - k = nu by omega, show n - k = nw by omega] at e3
          rw [e3, cc, kc_c_mul]
          show kc_t (c 0 0) 0 0 0 0 * w i j = c 0 0 * w i j
          rw [show kc_t (c 0 0) 0 0 0 0 = c 0 0 from if_pos ⟨rfl, rfl⟩]
end ZFe
