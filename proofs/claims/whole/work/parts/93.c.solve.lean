section ZFc
theorem zm_open (X : zS2) (many : Nat) : ∀ (fu q : Nat), q ≤ many → many < q + fu → ∃ r : Nat, zm_solves_W260 many X fu q = r ∧ q ≤ r ∧ r ≤ many ∧ (∀ k, q ≤ k → k < r → X 15 k ≠ -1) ∧ (r < many → X 15 r = -1)
  | 0, q, h1, h2 => by omega
  | fu + 1, q, h1, h2 => by
    have e : zm_solves_W260 many X (fu + 1) q = (if (many : Int) ≤ (q : Int) then (q : Int) else (if X 15 ((q : Int).toNat) = -1 then (q : Int) else zm_solves_W260 many X fu ((q : Int) + 1))) := rfl
    rw [e, Int.toNat_natCast]
    by_cases z : q = many
    · rw [if_pos (by omega)]
      exact ⟨q, rfl, Nat.le_refl _, h1, fun k a b => by omega, fun y => by omega⟩
    · rw [if_neg (by omega)]
      by_cases y : X 15 q = -1
      · rw [if_pos y]
        exact ⟨q, rfl, Nat.le_refl _, h1, fun k a b => by omega, fun _ => y⟩
      · rw [if_neg y, show (q : Int) + 1 = ((q + 1 : Nat) : Int) by omega]
        obtain ⟨r, a1, a2, a3, a4, a5⟩ := zm_open X many fu (q + 1) (by omega) (by omega)
        refine ⟨r, a1, by omega, a3, fun k b1 b2 => ?_, a5⟩
        by_cases e2 : k = q
        · rw [e2]; exact y
        · exact a4 k (by omega) b2
/-- all of solves -/
theorem zm_solvesE {K : Type} [Lean.Grind.CommRing K] {p : Int} {φ : Int → K} (h : zKp K p φ) (hpr : zPr p) {S : zS2} (hS : S 0 10 = p) {eqs many : Nat} (he : eqs ≤ 45) (hm : many ≤ 30) (hcan : zMc S p) :
    (∃ U, zm_solves S eqs many = (0, U) ∧ (∀ a i : Nat, a ≠ 13 → a ≠ 14 → a ≠ 15 → U a i = S a i) ∧ ∀ x, zSol φ S eqs many x → ∀ k, k < many → x k = 0) ∨
    ∃ U, zm_solves S eqs many = (1, U) ∧ (∀ a i : Nat, a ≠ 13 → a ≠ 14 → a ≠ 15 → U a i = S a i) ∧ zSol φ S eqs many (fun k => φ (U 13 k)) ∧ (∀ k, k < many → 0 ≤ U 13 k ∧ U 13 k < p) ∧ ∃ k, k < many ∧ φ (U 13 k) ≠ 0 := by
  have hp := zPr_2 hpr
  have lp : ∀ n : Nat, n ≤ many → ∃ (dn : Nat) (X : zS2), zfor (zm_solves_L5 eqs many) 0 (0, S) n = ((dn : Int), X) ∧ zGJ φ S p eqs many n dn X := fun n => by
    induction n with
    | zero =>
      intro _
      exact ⟨0, S, rfl, fun _ _ _ _ => rfl, hcan, Nat.zero_le _, fun k hk => absurd hk (Nat.not_lt_zero _), fun r hr => absurd hr (Nat.not_lt_zero _), fun k hk => absurd hk (Nat.not_lt_zero _), fun k k' hk => absurd hk (Nat.not_lt_zero _), fun x => Iff.rfl⟩
    | succ n ih =>
      intro hn
      obtain ⟨dn, X, e1, e2⟩ := ih (by omega)
      obtain ⟨dn', X', s1, s2⟩ := zGJ_step h hpr hS he hm (show n < many by omega) e2
      refine ⟨dn', X', ?_, s2⟩
      show zm_solves_L5 eqs many (0 + (n : Int)) (zfor (zm_solves_L5 eqs many) 0 (0, S) n) = _
      rw [e1, show 0 + (n : Int) = (n : Int) by omega]
      exact s1
  obtain ⟨dn, X, e1, g1, g2, g3, g4, g5, g6, g7, g8⟩ := lp many (Nat.le_refl _)
  obtain ⟨q, o1, o2, o3, o4, o5⟩ := zm_open X many 32 0 (Nat.zero_le _) (by omega)
  have o1' : zm_solves_W260 many X 32 0 = (q : Int) := o1
  have em : zm_solves S eqs many = (if (q : Int) = (many : Int) then ((0 : Int), X) else (1, zfor (zm_solves_L294 q) 0 X many)) := by
    unfold zm_solves
    rw [show (((many : Int) - 1) + 1 - 0).toNat = many by omega, e1, zlet_v]
    dsimp only
    rw [zlet_v, o1']
    rfl
  rw [em]
  by_cases hq : q = many
  · rw [if_pos (by omega)]
    refine Or.inl ⟨X, rfl, fun a i h1 h2 h3 => g1 a i h2 h3, fun x hx k hk => ?_⟩
    rcases g4 k hk with z | ⟨r, q1, q2, q3, q4⟩
    · exact absurd z (o4 k (Nat.zero_le _) (by omega))
    · have s := (g8 x).2 hx r (by omega)
      rw [ka_s_one (k := k) many hk (fun k' hk' hne => by
        rcases g4 k' hk' with z | ⟨r', w1, w2, w3, w4⟩
        · exact absurd z (o4 k' (Nat.zero_le _) (by omega))
        · have rr : r ≠ r' := fun e => hne (g7 k' k hk' hk (by rw [q1, w1, e]) (by rw [w1]; omega))
          rw [w4 r (by omega) rr, h.z, ka_zm]), q3, h.o, ka_om] at s
      exact s
  · rw [if_neg (by omega)]
    have hqm : q < many := by omega
    have q15 := o5 hqm
    -- the numbers laid
    have f := fun (n : Nat) (hn : n ≤ many) => zfor_ix (I := fun (n : Nat) (Y : zS2) => (∀ a i : Nat, a ≠ 13 → Y a i = X a i) ∧ ∀ k, k < n → Y 13 k = if X 15 k = -1 then (if k = q then 1 else 0) else (-(zMx X (X 15 k).toNat q)) % p) (step := zm_solves_L294 q) (a := 0) (s := X) ⟨fun _ _ _ => rfl, fun k hk => absurd hk (Nat.not_lt_zero _)⟩ n (fun k Y hk hY => by
      have y10 : Y 0 10 = p := by rw [hY.1 0 10 (by decide), g1 0 10 (by decide) (by decide), hS]
      have y15 : Y 15 k = X 15 k := hY.1 15 k (by decide)
      have es : zm_solves_L294 q (0 + (k : Int)) Y = za Y 13 k (if X 15 k = -1 then (if k = q then 1 else 0) else (-(zMx X (X 15 k).toNat q)) % p) := by
        unfold zm_solves_L294
        dsimp only
        rw [show 0 + (k : Int) = (k : Int) by omega, Int.toNat_natCast, y15]
        by_cases z : X 15 k = -1
        · rw [if_pos z, if_pos z]
          by_cases y : k = q
          · rw [if_pos (by omega), if_pos y, zlet_v]
          · rw [if_neg (by omega), if_neg y, zlet_v]
        · rw [if_neg z, if_neg z, zlet_v, zlet_v, zB_mod y10 (by omega)]
          have e3 : Y 14 (((30 * X 15 k) + (q : Int)).toNat) = zMx X (X 15 k).toNat q := by
            rw [hY.1 14 _ (by decide)]
            unfold zMx
            refine congrArg (X 14) ?_
            rcases g4 k (by omega) with w | ⟨r, w1, _⟩
            · exact absurd w z
            · rw [w1]; omega
          rw [e3]
      rw [es]
      refine ⟨fun a i ha => by rw [za_ne (by omega)]; exact hY.1 a i ha, fun k' hk' => ?_⟩
      by_cases e : k' = k
      · rw [e, za_same]
      · rw [za_ne (by omega)]; exact hY.2 k' (by omega))
    obtain ⟨f1, f2⟩ := f many (Nat.le_refl _)
    obtain ⟨U, hU⟩ : ∃ U, U = zfor (zm_solves_L294 q) 0 X many := ⟨_, rfl⟩
    rw [← hU] at f1 f2 ⊢
    refine Or.inr ⟨U, rfl, fun a i h1 h2 h3 => by rw [f1 a i h1]; exact g1 a i h2 h3, ?_, fun k hk => ?_, q, hqm, ?_⟩
    · refine (g8 _).1 (fun r hr => ?_)
      -- what a column adds
      have term : ∀ k, k < many → φ (zMx X r k) * φ (U 13 k) = (if X 15 k = r then -(φ (zMx X r q)) else 0) + (if k = q then φ (zMx X r q) else 0) := fun k hk => by
        rw [f2 k hk]
        rcases g4 k hk with z | ⟨r', w1, w2, w3, w4⟩
        · rw [if_pos z, if_neg (show ¬ X 15 k = (r : Int) by omega)]
          by_cases y : k = q
          · rw [if_pos y, if_pos y, h.o, y]; grind
          · rw [if_neg y, if_neg y, h.z]; grind
        · have kq : k ≠ q := fun y => by rw [y, q15] at w1; omega
          rw [if_neg (show ¬ X 15 k = -1 by rw [w1]; omega), if_neg kq, w1, Int.toNat_natCast, h.em, h.ng]
          by_cases y : r' = r
          · rw [if_pos (by rw [y]), ← y, w3, h.o]; grind
          · rw [if_neg (by omega), w4 r hr (fun e => y e.symm), h.z]; grind
      rw [ka_s_congr (g := fun k => (if X 15 k = r then -(φ (zMx X r q)) else 0) + (if k = q then φ (zMx X r q) else 0)) many term, ka_s_add, ka_s_one (f := fun k => if k = q then φ (zMx X r q) else 0) (k := q) many hqm (fun k _ hne => if_neg hne), if_pos rfl]
      by_cases hrd : r < dn
      · obtain ⟨k, w1, w2⟩ := g5 r hrd
        rw [ka_s_one (k := k) many w1 (fun k' hk' hne => if_neg (fun e => hne (g7 k' k hk' w1 (by rw [e, w2]) (by rw [e]; omega)))), if_pos w2]
        grind
      · rw [ka_s_zero many (fun k hk => if_neg (fun e => by
          rcases g4 k hk with z | ⟨r', w1, w2, _⟩ <;> omega)), g6 q hqm q15 r (by omega) hr, h.z]
        grind
    · rw [f2 k hk]
      split
      · split <;> omega
      · exact ⟨Int.emod_nonneg _ (by omega), Int.emod_lt_of_pos _ (by omega)⟩
    · rw [f2 q hqm, if_pos q15, if_pos rfl, h.o]
      exact h.F.1
end ZFc
