section ZFb
/-- the solutions -/
def zSol {K : Type} [Lean.Grind.CommRing K] (φ : Int → K) (X : zS2) (eqs many : Nat) (x : Nat → K) : Prop := ∀ r, r < eqs → ka_s (fun k => φ (zMx X r k) * x k) many = 0
/-- while columns are cleared -/
def zGJ {K : Type} [Lean.Grind.CommRing K] (φ : Int → K) (S0 : zS2) (p : Int) (eqs many c dn : Nat) (X : zS2) : Prop := (∀ a i : Nat, a ≠ 14 → a ≠ 15 → X a i = S0 a i) ∧ zMc X p ∧ dn ≤ eqs ∧ (∀ k, k < c → X 15 k = -1 ∨ ∃ r : Nat, X 15 k = r ∧ r < dn ∧ zMx X r k = 1 ∧ ∀ o, o < eqs → o ≠ r → zMx X o k = 0) ∧ (∀ r, r < dn → ∃ k, k < c ∧ X 15 k = r) ∧ (∀ k, k < c → X 15 k = -1 → ∀ r, dn ≤ r → r < eqs → zMx X r k = 0) ∧ (∀ k k', k < c → k' < c → X 15 k = X 15 k' → X 15 k ≠ -1 → k = k') ∧ ∀ x, zSol φ X eqs many x ↔ zSol φ S0 eqs many x
theorem zGJ_step {K : Type} [Lean.Grind.CommRing K] {p : Int} {φ : Int → K} (h : zKp K p φ) (hpr : zPr p) {S0 : zS2} (hS : S0 0 10 = p) {eqs many c dn : Nat} (he : eqs ≤ 45) (hm : many ≤ 30) (hcm : c < many) {X : zS2} (hX : zGJ φ S0 p eqs many c dn X) : ∃ (dn' : Nat) (X' : zS2), zm_solves_L5 eqs many c ((dn : Int), X) = ((dn' : Int), X') ∧ zGJ φ S0 p eqs many (c + 1) dn' X' := by
  obtain ⟨g1, g2, g3, g4, g5, g6, g7, g8⟩ := hX
  have hp := zPr_2 hpr
  obtain ⟨X1, hX1⟩ : ∃ X1, X1 = za X 15 c (-1) := ⟨_, rfl⟩
  have x1o : ∀ a i : Nat, ¬ (a = 15 ∧ i = c) → X1 a i = X a i := fun a i q => by rw [hX1, za_ne q]
  have x1c : X1 15 c = -1 := by rw [hX1, za_same]
  have x1m : ∀ r k, zMx X1 r k = zMx X r k := fun r k => x1o 14 _ (by omega)
  have x10 : X1 0 10 = p := by rw [x1o 0 10 (by omega), g1 0 10 (by decide) (by decide), hS]
  obtain ⟨r, f1, f2, f3, f4, f5⟩ := zm_find X1 eqs c 47 dn g3 (by omega)
  have f1' : zm_solves_W22 eqs c X1 47 (dn : Int) = (r : Int) := f1
  by_cases hr : r = eqs
  · refine ⟨dn, X1, ?_, fun a i h1 h2 => by rw [x1o a i (by omega)]; exact g1 a i h1 h2, fun r k a b => by rw [x1m]; exact g2 r k a b, g3, fun k hk => ?_, fun r hr => ?_, fun k hk hkk r h1 h2 => ?_, fun k k' hk hk' e1 e2 => ?_, fun x => ?_⟩
    · unfold zm_solves_L5
      dsimp only
      rw [zlet_v, zlet_v, Int.toNat_natCast, ← hX1, f1', if_pos (by omega)]
    · by_cases e : k = c
      · rw [e]; exact Or.inl x1c
      · rw [x1o 15 k (by omega)]
        rcases g4 k (by omega) with q | ⟨r0, q1, q2, q3, q4⟩
        · exact Or.inl q
        · exact Or.inr ⟨r0, q1, q2, by rw [x1m]; exact q3, fun o a b => by rw [x1m]; exact q4 o a b⟩
    · obtain ⟨k, q1, q2⟩ := g5 r hr
      exact ⟨k, by omega, by rw [x1o 15 k (by omega)]; exact q2⟩
    · rw [x1m]
      by_cases e : k = c
      · rw [e, ← x1m]; exact f4 r h1 (by omega)
      · rw [x1o 15 k (by omega)] at hkk
        exact g6 k (by omega) hkk r h1 h2
    · by_cases e : k = c
      · rw [e, x1c] at e2; exact absurd rfl e2
      · by_cases e' : k' = c
        · rw [e', x1c] at e1; exact absurd e1 e2
        · rw [x1o 15 k (by omega), x1o 15 k' (by omega)] at e1
          rw [x1o 15 k (by omega)] at e2
          exact g7 k k' (by omega) (by omega) e1 e2
    · rw [← g8 x]
      unfold zSol
      simp only [x1m]
  · have hr2 : r < eqs := by omega
    have hdn : dn < eqs := by omega
    have rc0 : zMx X r c ≠ 0 := by rw [← x1m]; exact f5 hr2
    obtain ⟨s1, s2⟩ := zm_swap (X := X1) (a := r) (b := dn) (many := many) (by omega) (by omega) hm
    obtain ⟨X2, hX2⟩ : ∃ X2, X2 = zm_swapsRows X1 r dn many := ⟨_, rfl⟩
    rw [← hX2] at s1 s2
    have x20 : X2 0 10 = p := by rw [s1 0 10 (by decide), x10]
    have c2 : zMc X2 p := fun a b ha hb => by
      rw [s2 a b ha hb]
      split
      · split
        · rw [x1m]; exact g2 _ _ (by omega) hb
        · split
          · rw [x1m]; exact g2 _ _ (by omega) hb
          · rw [x1m]; exact g2 _ _ ha hb
      · rw [x1m]; exact g2 _ _ ha hb
    have m2d : ∀ k, k < many → zMx X2 dn k = zMx X r k := fun k hk => by
      rw [s2 dn k (by omega) (by omega), if_pos hk]
      simp only [x1m]
      by_cases e : dn = r
      · rw [if_pos e, e]
      · rw [if_neg e, if_pos trivial]
    have m2r : ∀ k, k < many → zMx X2 r k = zMx X dn k := fun k hk => by
      rw [s2 r k (by omega) (by omega), if_pos hk, if_pos rfl, x1m]
    have m2o : ∀ o k, o < 45 → k < many → o ≠ dn → o ≠ r → zMx X2 o k = zMx X o k := fun o k ho hk h1 h2 => by
      rw [s2 o k ho (by omega), if_pos hk, if_neg h2, if_neg h1, x1m]
    obtain ⟨z, hz⟩ : ∃ z, z = zm_inverse X2 (zMx X2 dn c) := ⟨_, rfl⟩
    have iv : φ z * φ (zMx X r c) = 1 := by
      have := zK_minv h hpr x20 (c2 dn c (by omega) (by omega)) (by rw [m2d c hcm]; exact rc0)
      rw [hz]
      rw [m2d c hcm] at this ⊢
      exact this
    have zr : 0 ≤ z := by
      rw [hz]
      show 0 ≤ zm_modulo X2 (zfor (zm_power_L5 X2 (zMx X2 dn c)) 0 1 (((X2 0 10 - 2) - 1) + 1 - 0).toNat)
      rw [zB_mod x20 (by omega)]
      exact Int.emod_nonneg _ (by omega)
    obtain ⟨t1, t2⟩ := zm_scale (X := X2) (p := p) (z := z) (d := dn) (many := many) (by omega) x20 (by omega) hm c2 zr
    obtain ⟨X3, hX3⟩ : ∃ X3, X3 = zfor (zm_solves_L88 dn z) 0 X2 many := ⟨_, rfl⟩
    rw [← hX3] at t1 t2
    have x30 : X3 0 10 = p := by rw [t1 0 10 (by decide), x20]
    have c3 : zMc X3 p := fun a b ha hb => by
      rw [t2 a b ha hb]
      split
      · exact ⟨Int.emod_nonneg _ (by omega), Int.emod_lt_of_pos _ (by omega)⟩
      · exact c2 a b ha hb
    obtain ⟨u1, u2⟩ := zm_elim (X := X3) (p := p) (c := c) (d := dn) (eqs := eqs) (many := many) (by omega) x30 (by omega) he hm c3 hcm
    obtain ⟨X4, hX4⟩ : ∃ X4, X4 = zfor (zm_solves_L135 many c dn) 0 X3 eqs := ⟨_, rfl⟩
    rw [← hX4] at u1 u2
    obtain ⟨X5, hX5⟩ : ∃ X5, X5 = za X4 15 c (dn : Int) := ⟨_, rfl⟩
    have x5m : ∀ r k, zMx X5 r k = zMx X4 r k := fun r k => by unfold zMx; rw [hX5, za_ne (by omega)]
    have x5o : ∀ a i : Nat, a ≠ 14 → ¬ (a = 15 ∧ i = c) → X5 a i = X a i := fun a i h1 h2 => by rw [hX5, za_ne h2, u1 a i h1, t1 a i h1, s1 a i h1, x1o a i h2]
    have x5c : X5 15 c = dn := by rw [hX5, za_same]
    -- the entries
    have e3d : ∀ k, k < many → zMx X3 dn k = (zMx X r k * z) % p := fun k hk => by rw [t2 dn k (by omega) (by omega), if_pos ⟨rfl, hk⟩, m2d k hk]
    have e3o : ∀ o k, o < 45 → k < many → o ≠ dn → zMx X3 o k = zMx X2 o k := fun o k ho hk h1 => by rw [t2 o k ho (by omega), if_neg (fun q => h1 q.1)]
    have e5d : ∀ k, k < many → zMx X5 dn k = (zMx X r k * z) % p := fun k hk => by rw [x5m, u2 dn k (by omega) (by omega), if_neg (by omega), e3d k hk]
    have e5o : ∀ o k, o < eqs → k < many → o ≠ dn → zMx X5 o k = (zMx X2 o k - zMx X2 o c * ((zMx X r k * z) % p)) % p := fun o k ho hk h1 => by
      rw [x5m, u2 o k (by omega) (by omega), if_pos ⟨ho, h1, hk⟩, e3o o k (by omega) hk h1, e3o o c (by omega) hcm h1, e3d k hk]
    have one : (zMx X r c * z) % p = 1 := by
      refine h.ij ⟨Int.emod_nonneg _ (by omega), Int.emod_lt_of_pos _ (by omega)⟩ ⟨by decide, by omega⟩ ?_
      rw [h.em, h.ml, h.o, Lean.Grind.CommSemiring.mul_comm]; exact iv
    have k5 : ∀ k, k < c → (∀ o, o < eqs → (∀ r0, r0 < eqs → r0 ≥ dn → zMx X r0 k = 0) → zMx X5 o k = zMx X o k) := fun k hk o ho hz0 => by
      have hkm : k < many := by omega
      have zr : zMx X r k = 0 := hz0 r hr2 f2
      have zd : zMx X dn k = 0 := hz0 dn hdn (Nat.le_refl _)
      by_cases e : o = dn
      · rw [e, e5d k hkm, zr, zd, Int.zero_mul, Int.zero_emod]
      · rw [e5o o k ho hkm e, zr, Int.zero_mul, Int.zero_emod, Int.mul_zero, Int.sub_zero]
        have c0 := c2 o k (by omega) (by omega)
        rw [Int.emod_eq_of_lt c0.1 c0.2]
        by_cases e2 : o = r
        · rw [e2, m2r k hkm, zr, zd]
        · exact m2o o k (by omega) hkm e e2
    refine ⟨dn + 1, X5, ?_, fun a i h1 h2 => by rw [x5o a i h1 (by omega)]; exact g1 a i h1 h2, fun a b ha hb => ?_, by omega, fun k hk => ?_, fun r0 hr0 => ?_, fun k hk hkk r0 h1 h2 => ?_, fun k k' hk hk' e1 e2 => ?_, fun x => ?_⟩
    · unfold zm_solves_L5
      dsimp only
      rw [zlet_v, zlet_v, Int.toNat_natCast, ← hX1, f1', if_neg (by omega), zlet_v, ← hX2, zlet_v, show ((30 * (dn : Int)) + (c : Int)).toNat = 30 * dn + c by omega, show X2 14 (30 * dn + c) = zMx X2 dn c from rfl, ← hz, zlet_v, show (((many : Int) - 1) + 1 - 0).toNat = many by omega, ← hX3, zlet_v, show (((eqs : Int) - 1) + 1 - 0).toNat = eqs by omega, ← hX4, zlet_v, ← hX5]
      rfl
    · rw [x5m, u2 a b ha hb]
      split
      · exact ⟨Int.emod_nonneg _ (by omega), Int.emod_lt_of_pos _ (by omega)⟩
      · exact c3 a b ha hb
    · by_cases e : k = c
      · rw [e]
        refine Or.inr ⟨dn, x5c, by omega, by rw [e5d c hcm, one], fun o ho hne => ?_⟩
        rw [e5o o c ho hcm hne, one, Int.mul_one, Int.sub_self, Int.zero_emod]
      · rw [x5o 15 k (by decide) (by omega)]
        rcases g4 k (by omega) with q | ⟨r0, q1, q2, q3, q4⟩
        · exact Or.inl q
        · have hz0 : ∀ r1, r1 < eqs → r1 ≥ dn → zMx X r1 k = 0 := fun r1 a b => q4 r1 a (by omega)
          refine Or.inr ⟨r0, q1, by omega, ?_, fun o ho hne => ?_⟩
          · rw [k5 k (by omega) r0 (by omega) hz0]; exact q3
          · rw [k5 k (by omega) o ho hz0]; exact q4 o ho hne
    · by_cases e : r0 = dn
      · exact ⟨c, by omega, by rw [x5c, e]⟩
      · obtain ⟨k, q1, q2⟩ := g5 r0 (by omega)
        exact ⟨k, by omega, by rw [x5o 15 k (by decide) (by omega)]; exact q2⟩
    · by_cases e : k = c
      · rw [e, x5c] at hkk; omega
      · rw [x5o 15 k (by decide) (by omega)] at hkk
        have hz0 : ∀ r1, r1 < eqs → r1 ≥ dn → zMx X r1 k = 0 := fun r1 a b => g6 k (by omega) hkk r1 b a
        rw [k5 k (by omega) r0 h2 hz0]
        exact hz0 r0 h2 (by omega)
    · by_cases e : k = c
      · by_cases e' : k' = c
        · omega
        · rw [e, x5c, x5o 15 k' (by decide) (by omega)] at e1
          rcases g4 k' (by omega) with q | ⟨r0, q1, q2, _, _⟩ <;> omega
      · by_cases e' : k' = c
        · rw [e', x5c, x5o 15 k (by decide) (by omega)] at e1
          rcases g4 k (by omega) with q | ⟨r0, q1, q2, _, _⟩ <;> omega
        · rw [x5o 15 k (by decide) (by omega), x5o 15 k' (by decide) (by omega)] at e1
          rw [x5o 15 k (by decide) (by omega)] at e2
          exact g7 k k' (by omega) (by omega) e1 e2
    · rw [← g8 x]
      have rd : ka_s (fun k => φ (zMx X5 dn k) * x k) many = φ z * ka_s (fun k => φ (zMx X r k) * x k) many := by
        rw [← ka_s_mul]
        exact ka_s_congr _ (fun k hk => by rw [e5d k hk, h.em, h.ml]; grind)
      have ro : ∀ o, o < eqs → o ≠ dn → ka_s (fun k => φ (zMx X5 o k) * x k) many = ka_s (fun k => φ (zMx X2 o k) * x k) many - φ (zMx X2 o c) * ka_s (fun k => φ (zMx X5 dn k) * x k) many := fun o ho hne => by
        rw [← ka_s_mul, ← ka_s_sub]
        exact ka_s_congr _ (fun k hk => by rw [e5o o k ho hk hne, e5d k hk, h.em, h.sb, h.ml]; grind)
      have r2 : ∀ o, o < eqs → o ≠ dn → ka_s (fun k => φ (zMx X2 o k) * x k) many = if o = r then ka_s (fun k => φ (zMx X dn k) * x k) many else ka_s (fun k => φ (zMx X o k) * x k) many := fun o ho hne => by
        by_cases e : o = r
        · rw [if_pos e]
          exact ka_s_congr _ (fun k hk => by rw [e, m2r k hk])
        · rw [if_neg e]
          exact ka_s_congr _ (fun k hk => by rw [m2o o k (by omega) hk hne e])
      constructor
      · intro s5 o ho
        have a1 := s5 dn hdn
        rw [rd] at a1
        have b1 : ka_s (fun k => φ (zMx X r k) * x k) many = 0 := by
          rcases h.F.dom _ _ a1 with q | q
          · exact absurd (show (1 : K) = 0 by rw [← iv, q, ka_zm]) h.F.1
          · exact q
        by_cases e : o = r
        · rw [e]; exact b1
        · by_cases e2 : o = dn
          · have a2 := s5 r hr2
            rw [ro r hr2 (by omega), s5 dn hdn, ka_mz, r2 r hr2 (by omega), if_pos rfl] at a2
            rw [e2]
            have a3 : ∀ y : K, y - 0 = 0 → y = 0 := fun y q => by grind
            exact a3 _ a2
          · have a2 := s5 o ho
            rw [ro o ho e2, s5 dn hdn, ka_mz, r2 o ho e2, if_neg e] at a2
            have a3 : ∀ y : K, y - 0 = 0 → y = 0 := fun y q => by grind
            exact a3 _ a2
      · intro s0 o ho
        have b1 : ka_s (fun k => φ (zMx X5 dn k) * x k) many = 0 := by rw [rd, s0 r hr2, ka_mz]
        by_cases e2 : o = dn
        · rw [e2]; exact b1
        · rw [ro o ho e2, b1, ka_mz, r2 o ho e2]
          split
          · rw [s0 dn hdn]; exact ka_xx _
          · rw [s0 o ho]; exact ka_xx _
end ZFb
