section ZFe
theorem ka_s_split {K : Type} [Lean.Grind.CommRing K] (g : Nat → K) (r : Nat) : ∀ k : Nat, ka_s g (r + k) = ka_s g r + ka_s (fun t => g (r + t)) k
  | 0 => (ka_az _).symm
  | k + 1 => by
    show ka_s g (r + k) + g (r + k) = ka_s g r + (ka_s (fun t => g (r + t)) k + g (r + k))
    rw [ka_s_split g r k]; exact Lean.Grind.Semiring.add_assoc _ _ _
/-- unknowns as a POLYNOMIAL -/
def kUn {K : Type} [Lean.Grind.CommRing K] (x : Nat → K) (off N : Nat) : Nat → Nat → K := fun i j => if ncol i j < N then x (off + ncol i j) else 0
theorem kUn_dg {K : Type} [Lean.Grind.CommRing K] {x : Nat → K} {off d : Nat} : ∀ i j, d < i + j → kUn x off (nT (d + 1)) i j = 0 := fun i j h => if_neg (by
  have := ncol_ge (i := i) (j := j) (d := d + 1) (by omega)
  omega)
theorem kUn_sum {K : Type} [Lean.Grind.CommRing K] (x : Nat → K) (off N : Nat) (g : Nat → Nat → K) (t : Nat) : ka_s (fun c => kvec (kc_mul (kc_t 1 (ndc c).1 (ndc c).2) g) t * x (off + c)) N = kvec (kc_mul (kUn x off N) g) t := by
  unfold kvec
  rw [kc_sum_t g (N := N) (P := kUn x off N) (fun i j hij => if_neg (by omega))]
  refine ka_s_congr _ (fun c hc => ?_)
  have e : kUn x off N (ndc c).1 (ndc c).2 = x (off + c) := by
    unfold kUn
    rw [ncol_ndc, if_pos hc]
  rw [e]; exact Lean.Grind.CommSemiring.mul_comm _ _
theorem kvec_all {K : Type} [Lean.Grind.CommRing K] {F G : Nat → Nat → K} (hF : ∀ i j, 8 < i + j → F i j = 0) (hG : ∀ i j, 8 < i + j → G i j = 0) : (∀ t, t < 45 → kvec F t = kvec G t) ↔ F = G := by
  constructor
  · intro h
    funext i j
    by_cases q : i + j ≤ 8
    · have := h (ncol i j) (by
        have := ncol_lt (i := i) (j := j) (d := 9) (by omega)
        rw [nT_9.1] at this
        exact this)
      unfold kvec at this
      rw [ndc_ncol] at this
      exact this
    · rw [hF i j (by omega), hG i j (by omega)]
  · intro h t _
    rw [h]
/-- the DEGREES of the couple -/
theorem kUW_dg {K : Type} [Lean.Grind.CommRing K] (hK : ka_F K) {f g u w h : Nat → Nat → K} {n m : Nat} (hU : kUW f g u w h) (f1 : ∀ i j, n < i + j → f i j = 0) (f2 : ∃ i j, i + j = n ∧ f i j ≠ 0) (g1 : ∀ i j, m < i + j → g i j = 0) (g2 : ∃ i j, i + j = m ∧ g i j ≠ 0) : ∃ e nu nw, nu + e = m ∧ nw + e = n ∧ ((∀ i j, e < i + j → h i j = 0) ∧ ∃ i j, i + j = e ∧ h i j ≠ 0) ∧ ((∀ i j, nu < i + j → u i j = 0) ∧ ∃ i j, i + j = nu ∧ u i j ≠ 0) ∧ ((∀ i j, nw < i + j → w i j = 0) ∧ ∃ i j, i + j = nw ∧ w i j ≠ 0) := by
  obtain ⟨pu, pw, ph, u0, w0, ef, eg, al⟩ := hU
  obtain ⟨nu, u1, u2⟩ := kc_ed pu u0
  obtain ⟨nw, w1, w2⟩ := kc_ed pw w0
  obtain ⟨e, h1, h2⟩ := kc_ed ph (Classical.byContradiction fun z => by
    obtain ⟨x, y, _, hxy⟩ := f2
    apply hxy
    rw [ef]
    have cz : h = fun _ _ => 0 := funext fun x => funext fun y => Classical.byContradiction fun q => z ⟨x, y, q⟩
    rw [cz]
    exact kc_zmul w x y)
  have ex1 := kc_exact hK h1 w1 h2 w2
  have ex2 := kc_exact hK h1 u1 h2 u2
  rw [← ef] at ex1
  rw [← eg] at ex2
  have z1 : ∀ i j, e + nw < i + j → f i j = 0 := by rw [ef]; exact kc_zero h1 w1
  have z2 : ∀ i j, e + nu < i + j → g i j = 0 := by rw [eg]; exact kc_zero h1 u1
  have q1 := kc_ed_u z1 ex1 f1 f2
  have q2 := kc_ed_u z2 ex2 g1 g2
  exact ⟨e, nu, nw, by omega, by omega, ⟨h1, h2⟩, ⟨u1, u2⟩, ⟨w1, w2⟩⟩
end ZFe
