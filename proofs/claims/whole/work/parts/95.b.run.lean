section ZHb
/-- the RULES end within so many -/
def zrE (p : Int) : Nat → (Nat → Int) → (Nat → Int) → Prop
  | 0, _, _ => False
  | n + 1, F, G => zwhich F G = 0 ∨ (zwhich F G = 1 ∧ 0 ≤ zlst G ∧ zrE p n (zspl F) G) ∨ (zwhich F G = 2 ∧ zrE p n G F) ∨ (zwhich F G = 3 ∧ zrE p n F (zcut F G p))
theorem zwh_0 {F G : Nat → Int} (h : zwhich F G = 0) : F 0 ≠ 0 ∨ G 0 ≠ 0 := by
  unfold zwhich at h
  split at h
  · assumption
  · split at h
    · omega
    · split at h <;> omega
theorem zwh_1 {F G : Nat → Int} (h : zwhich F G = 1) : F 0 = 0 ∧ G 0 = 0 ∧ zgrt F = -1 := by
  have := zgrt_rng F
  unfold zwhich at h
  split at h
  · omega
  · split at h
    · refine ⟨Classical.byContradiction fun z => ?_, Classical.byContradiction fun z => ?_, by omega⟩
      · rename_i q _
        exact q (Or.inl z)
      · rename_i q _
        exact q (Or.inr z)
    · split at h <;> omega
theorem zwh_2 {F G : Nat → Int} (h : zwhich F G = 2) : F 0 = 0 ∧ G 0 = 0 ∧ 0 ≤ zgrt F ∧ (zgrt G = -1 ∨ zgrt G < zgrt F) := by
  have := zgrt_rng F
  have := zgrt_rng G
  unfold zwhich at h
  split at h
  · omega
  · split at h
    · omega
    · split at h
      · rename_i q _ _
        refine ⟨Classical.byContradiction fun z => q (Or.inl z), Classical.byContradiction fun z => q (Or.inr z), by omega, by omega⟩
      · omega
theorem zwh_3 {F G : Nat → Int} (h : zwhich F G = 3) : F 0 = 0 ∧ G 0 = 0 ∧ 0 ≤ zgrt F ∧ zgrt F ≤ zgrt G := by
  have := zgrt_rng F
  have := zgrt_rng G
  unfold zwhich at h
  split at h
  · omega
  · split at h
    · omega
    · split at h
      · omega
      · rename_i q _ _
        refine ⟨Classical.byContradiction fun z => q (Or.inl z), Classical.byContradiction fun z => q (Or.inr z), by omega, by omega⟩
/-- the reduction, both -/
def zrR (p : Int) (F G o ki : Nat → Int) (st : Nat) (S : zS2) : Prop := S 0 10 = p ∧ zRG F S 16 ∧ zRG G S 17 ∧ (∀ k : Nat, k < 4 → S 18 k = o k) ∧ S 0 33 = st ∧ ∀ k : Nat, k < st → S 19 k = ki k
/-- a RULE is counted, both -/
theorem zrR.goes {p : Int} {F G o ki : Nat → Int} {st : Nat} {S : zS2} (h : zrR p F G o ki st S) (k : Nat) (hk : k < 4) (h4 : st < 4000) : zrR p F G (zup o k (o k + 1)) (zup ki st k) (st + 1) (zm_goesBy S k) ∧ ∀ a i : Nat, a ≠ 18 → a ≠ 19 → ¬ (a = 0 ∧ i = 33) → (zm_goesBy S k) a i = S a i := by
  obtain ⟨h1, h2, h3, h5, h6, h7⟩ := h
  obtain ⟨g1, g2, g3, g4⟩ := zm_goes S k hk h6 h4
  refine ⟨⟨by rw [g1 0 10 (by decide) (by decide) (by decide), h1], fun q hq => by rw [g1 16 q (by decide) (by decide) (by omega)]; exact h2 q hq, fun q hq => by rw [g1 17 q (by decide) (by decide) (by omega)]; exact h3 q hq, fun i hi => ?_, g2, fun i hi => ?_⟩, g1⟩
  · rw [g3, zup_ap, h5 i hi]
    by_cases q : i = k
    · rw [if_pos q, if_pos q, q]
    · rw [if_neg q, if_neg q]
  · rw [g4, zup_ap]
    by_cases q : i = st
    · rw [if_pos q, if_pos q]
    · rw [if_neg q, if_neg q]
      exact h7 i (by omega)
theorem zrR.same {p : Int} {F G o ki F' G' : Nat → Int} {st : Nat} {S T : zS2} (h : zrR p F G o ki st S) (h16 : zRG F' T 16) (h17 : zRG G' T 17) (e : ∀ a i : Nat, a ≠ 16 → a ≠ 17 → T a i = S a i) : zrR p F' G' o ki st T := by
  obtain ⟨h1, h2, h3, h5, h6, h7⟩ := h
  exact ⟨by rw [e 0 10 (by decide) (by decide), h1], h16, h17, fun i hi => by rw [e 18 i (by decide) (by decide)]; exact h5 i hi, by rw [e 0 33 (by decide) (by decide), h6], fun i hi => by rw [e 19 i (by decide) (by decide)]; exact h7 i hi⟩
theorem zr_W0 {S : zS2} (h : S 16 0 ≠ 0 ∨ S 17 0 ≠ 0) (fu : Nat) (t : Int) : zm_timesAt_W78 (fu + 1) t S = (t, S) ∧ zqE (fu + 1) S := by
  refine ⟨?_, ?_⟩
  · simp only [zm_timesAt_W78]
    show (if S 16 0 = 0 then (if S 17 0 = 0 then _ else (t, S)) else (t, S)) = (t, S)
    by_cases q : S 16 0 = 0
    · rw [if_pos q]
      rcases h with h | h
      · exact absurd q h
      · rw [if_neg h]
    · rw [if_neg q]
  · rcases h with h | h
    · exact Or.inl h
    · exact Or.inr (Or.inl h)
theorem zr_W1 {S : zS2} (h1 : S 16 0 = 0) (h2 : S 17 0 = 0) (h3 : zm_greatestOf_f S = -1) (fu : Nat) (t : Int) : zm_timesAt_W78 (fu + 1) t S = zm_timesAt_W78 fu (t + zm_leastOf_g (zm_goesBy S 1)) (zm_splits (zm_goesBy S 1)) ∧ (zqE fu (zm_splits (zm_goesBy S 1)) → zqE (fu + 1) S) := by
  refine ⟨?_, fun e => ?_⟩
  · simp only [zm_timesAt_W78, zlet_v]
    show (if S 16 0 = 0 then (if S 17 0 = 0 then _ else (t, S)) else (t, S)) = _
    rw [if_pos h1, if_pos h2, if_pos h3]
  · refine Or.inr (Or.inr ?_)
    have : zq_step S = zm_splits (zm_goesBy S 1) := by
      unfold zq_step
      simp only [zlet_v]
      rw [if_pos h3]
    rw [this]
    exact e
theorem zr_W2 {S : zS2} (h1 : S 16 0 = 0) (h2 : S 17 0 = 0) (h3 : zm_greatestOf_f S ≠ -1) (h4 : zm_greatestOf_g S = -1 ∨ ¬ zm_greatestOf_f S ≤ zm_greatestOf_g S) (fu : Nat) (t : Int) : zm_timesAt_W78 (fu + 1) t S = zm_timesAt_W78 fu t (zm_swaps (zm_goesBy S 2)) ∧ (zqE fu (zm_swaps (zm_goesBy S 2)) → zqE (fu + 1) S) := by
  refine ⟨?_, fun e => ?_⟩
  · simp only [zm_timesAt_W78, zlet_v]
    show (if S 16 0 = 0 then (if S 17 0 = 0 then _ else (t, S)) else (t, S)) = _
    rw [if_pos h1, if_pos h2, if_neg h3]
    by_cases q : zm_greatestOf_g S = -1
    · rw [if_pos q]
    · rw [if_neg q, if_neg (by omega)]
  · refine Or.inr (Or.inr ?_)
    have : zq_step S = zm_swaps (zm_goesBy S 2) := by
      unfold zq_step
      simp only [zlet_v]
      rw [if_neg h3]
      by_cases q : zm_greatestOf_g S = -1
      · rw [if_pos q]
      · rw [if_neg q, if_neg (by omega)]
    rw [this]
    exact e
theorem zr_W3 {S : zS2} (h1 : S 16 0 = 0) (h2 : S 17 0 = 0) (h3 : zm_greatestOf_f S ≠ -1) (h4 : zm_greatestOf_g S ≠ -1) (h5 : zm_greatestOf_f S ≤ zm_greatestOf_g S) (fu : Nat) (t : Int) : zm_timesAt_W78 (fu + 1) t S = zm_timesAt_W78 fu t (zm_cuts (zm_goesBy S 3) (zm_greatestOf_f S) (zm_greatestOf_g S)) ∧ (zqE fu (zm_cuts (zm_goesBy S 3) (zm_greatestOf_f S) (zm_greatestOf_g S)) → zqE (fu + 1) S) := by
  refine ⟨?_, fun e => ?_⟩
  · simp only [zm_timesAt_W78, zlet_v]
    show (if S 16 0 = 0 then (if S 17 0 = 0 then _ else (t, S)) else (t, S)) = _
    rw [if_pos h1, if_pos h2, if_neg h3, if_neg h4, if_pos h5]
  · refine Or.inr (Or.inr ?_)
    have : zq_step S = zm_cuts (zm_goesBy S 3) (zm_greatestOf_f S) (zm_greatestOf_g S) := by
      unfold zq_step
      simp only [zlet_v]
      rw [if_neg h3, if_neg h4, if_pos h5]
    rw [this]
    exact e
/-- what stands when it is over -/
def zrD (p t : Int) (R : zRs) (S W : zS2) : Prop := (∀ k : Nat, k < 4 → W 18 k = R.2.2.2.2.1 k) ∧ W 0 33 = R.2.1 ∧ (∀ k : Nat, (k : Int) < R.2.1 → W 19 k = R.2.2.2.2.2 k) ∧ (1 ≤ R.2.1 ∧ R.2.1 ≤ 2048) ∧ t ≤ R.1 ∧ ∀ a i : Nat, ¬ (16 ≤ a ∧ a ≤ 19) → ¬ (a = 0 ∧ i = 33) → W a i = S a i
theorem zrr_run {K : Type} [Lean.Grind.CommRing K] {p : Int} {φ : Int → K} (h : zKp K p φ) (hpr : zPr p) : ∀ (n N fu st : Nat) (F G o ki : Nat → Int) (t : Int) (S : zS2), zrE p n F G → n ≤ N → n ≤ fu → st + n ≤ 2048 → zcan p F → zcan p G → zrR p F G o ki st S → (zrun p N (st : Int) F G o ki t).1 = (zm_timesAt_W78 fu t S).1 ∧ zqE fu S ∧ zrD p t (zrun p N (st : Int) F G o ki t) S (zm_goesBy (zm_timesAt_W78 fu t S).2 0)
  | 0, _, _, _, _, _, _, _, _, _, hE, _, _, _, _, _, _ => hE.elim
  | n + 1, N, fu, st, F, G, o, ki, t, S, hE, hN, hf, hs, cF, cG, hR => by
    obtain ⟨N, rfl⟩ : ∃ k, N = k + 1 := ⟨N - 1, by omega⟩
    obtain ⟨fu, rfl⟩ : ∃ k, fu = k + 1 := ⟨fu - 1, by omega⟩
    have hp := zPr_2 hpr
    have r16 := hR.2.1
    have r17 := hR.2.2.1
    have up : ∀ {S2 : zS2} {R : zRs} {t2 : Int} {W : zS2}, t ≤ t2 → (∀ a i : Nat, ¬ (16 ≤ a ∧ a ≤ 19) → ¬ (a = 0 ∧ i = 33) → S2 a i = S a i) → zrD p t2 R S2 W → zrD p t R S W := fun ht e ⟨a1, a2, a3, a4, a5, a6⟩ => ⟨a1, a2, a3, a4, by omega, fun a i h1 h2 => (a6 a i h1 h2).trans (e a i h1 h2)⟩
    rcases hE with w | ⟨w, wl, hE⟩ | ⟨w, hE⟩ | ⟨w, hE⟩
    · have q := zwh_0 w
      obtain ⟨e1, e2⟩ := zr_W0 (S := S) (by rw [r16 0 (by decide), r17 0 (by decide)]; exact q) fu t
      have er : zrun p (N + 1) (st : Int) F G o ki t = (t, (st : Int) + 1, F, G, zup o 0 (o 0 + 1), zup ki st 0) := by
        simp only [zrun]
        rw [if_neg (by omega), if_neg (by omega), if_neg (by omega), Int.toNat_natCast]
      obtain ⟨g1, g2⟩ := hR.goes 0 (by decide) (by omega)
      rw [e1, er]
      refine ⟨rfl, e2, g1.2.2.2.1, ?_, fun k hk => ?_, ⟨show (1 : Int) ≤ (st : Int) + 1 by omega, show (st : Int) + 1 ≤ 2048 by omega⟩, Int.le_refl _, fun a i h1 h2 => g2 a i (by omega) (by omega) h2⟩
      · exact g1.2.2.2.2.1
      · refine g1.2.2.2.2.2 k ?_
        have hk' : (k : Int) < (st : Int) + 1 := hk
        omega
    · obtain ⟨q1, q2, q3⟩ := zwh_1 w
      obtain ⟨e1, e2⟩ := zr_W1 (S := S) (by rw [r16 0 (by decide)]; exact q1) (by rw [r17 0 (by decide)]; exact q2) (by rw [zm_grt_f r16]; exact q3) fu t
      obtain ⟨g1, g2⟩ := hR.goes 1 (by decide) (by omega)
      rw [show ((1 : Nat) : Int) = 1 from rfl] at g1 g2
      obtain ⟨s1, s2⟩ := zm_spl g1.2.1
      have R2 := g1.same (F' := zspl F) (G' := G) (T := zm_splits (zm_goesBy S 1)) s1 (fun i hi => by rw [s2 17 i (by decide)]; exact g1.2.2.1 i hi) (fun a i h1 _ => s2 a i h1)
      have er : zrun p (N + 1) (st : Int) F G o ki t = zrun p N ((st + 1 : Nat) : Int) (zspl F) G (zup o 1 (o 1 + 1)) (zup ki st 1) (t + zlst G) := by
        simp only [zrun]
        rw [if_pos w, Int.toNat_natCast, show max (zlst G) 0 = zlst G by omega]
        rfl
      have ih := zrr_run h hpr n N fu (st + 1) (zspl F) G _ _ (t + zlst G) _ hE (by omega) (by omega) (by omega) (zspl_can (by omega) cF) cG R2
      rw [e1, er, zm_lst_g g1.2.2.1]
      exact ⟨ih.1, e2 ih.2.1, up (by omega) (fun a i h1 h2 => (s2 a i (by omega)).trans (g2 a i (by omega) (by omega) h2)) ih.2.2⟩
    · obtain ⟨q1, q2, q3, q4⟩ := zwh_2 w
      obtain ⟨e1, e2⟩ := zr_W2 (S := S) (by rw [r16 0 (by decide)]; exact q1) (by rw [r17 0 (by decide)]; exact q2) (by rw [zm_grt_f r16]; omega) (by rw [zm_grt_f r16, zm_grt_g r17]; omega) fu t
      obtain ⟨g1, g2⟩ := hR.goes 2 (by decide) (by omega)
      rw [show ((2 : Nat) : Int) = 2 from rfl] at g1 g2
      obtain ⟨s1, s2⟩ := zm_swp (zm_goesBy S 2)
      have R2 := g1.same (F' := G) (G' := F) (T := zm_swaps (zm_goesBy S 2)) (fun i hi => by rw [(s1 i hi).1]; exact g1.2.2.1 i hi) (fun i hi => by rw [(s1 i hi).2]; exact g1.2.1 i hi) s2
      have er : zrun p (N + 1) (st : Int) F G o ki t = zrun p N ((st + 1 : Nat) : Int) G F (zup o 2 (o 2 + 1)) (zup ki st 2) t := by
        simp only [zrun]
        rw [if_neg (by omega), if_pos w, Int.toNat_natCast]
        rfl
      have ih := zrr_run h hpr n N fu (st + 1) G F _ _ t _ hE (by omega) (by omega) (by omega) cG cF R2
      rw [e1, er]
      exact ⟨ih.1, e2 ih.2.1, up (Int.le_refl _) (fun a i h1 h2 => (s2 a i (by omega) (by omega)).trans (g2 a i (by omega) (by omega) h2)) ih.2.2⟩
    · obtain ⟨q1, q2, q3, q4⟩ := zwh_3 w
      have rF := zgrt_rng F
      have rG := zgrt_rng G
      obtain ⟨e1, e2⟩ := zr_W3 (S := S) (by rw [r16 0 (by decide)]; exact q1) (by rw [r17 0 (by decide)]; exact q2) (by rw [zm_grt_f r16]; omega) (by rw [zm_grt_g r17]; omega) (by rw [zm_grt_f r16, zm_grt_g r17]; exact q4) fu t
      rw [zm_grt_f r16, zm_grt_g r17] at e1 e2
      obtain ⟨x, hx⟩ : ∃ x : Nat, zgrt F = x := ⟨(zgrt F).toNat, by omega⟩
      obtain ⟨y, hy⟩ : ∃ y : Nat, zgrt G = y := ⟨(zgrt G).toNat, by omega⟩
      have hFx : F (17 * x) ≠ 0 := by
        rcases zgrt_sp F with ⟨a, _⟩ | ⟨k, k1, k2, k3, _⟩
        · omega
        · have : k = x := by omega
          rw [← this]; exact k3
      obtain ⟨g1, g2⟩ := hR.goes 3 (by decide) (by omega)
      rw [show ((3 : Nat) : Int) = 3 from rfl] at g1 g2
      obtain ⟨s1, s2⟩ := zm_cut h hpr g1.1 cF cG g1.2.1 g1.2.2.1 hx hy (by omega) (by omega) hFx
      have R2 := g1.same (F' := F) (G' := zcut F G p) (T := zm_cuts (zm_goesBy S 3) x y) (fun i hi => by rw [s2 16 i (by decide)]; exact g1.2.1 i hi) s1 (fun a i _ h2 => s2 a i h2)
      have er : zrun p (N + 1) (st : Int) F G o ki t = zrun p N ((st + 1 : Nat) : Int) F (zcut F G p) (zup o 3 (o 3 + 1)) (zup ki st 3) t := by
        simp only [zrun]
        rw [if_neg (by omega), if_neg (by omega), if_pos w, Int.toNat_natCast]
        rfl
      have ih := zrr_run h hpr n N fu (st + 1) F (zcut F G p) _ _ t _ hE (by omega) (by omega) (by omega) cF (zcut_can (by omega) (Int.le_refl _) cG) R2
      rw [hx, hy] at e1 e2
      rw [e1, er]
      exact ⟨ih.1, e2 ih.2.1, up (Int.le_refl _) (fun a i h1 h2 => (s2 a i (by omega)).trans (g2 a i (by omega) (by omega) h2)) ih.2.2⟩
theorem zm_goes_fr (S : zS2) (k : Nat) : ∀ a i : Nat, a ≠ 18 → a ≠ 19 → ¬ (a = 0 ∧ i = 33) → (zm_goesBy S k) a i = S a i := fun a i h1 h2 h3 => by
  unfold zm_goesBy zm_goesBy_J17
  simp only [zlet_v]
  rw [za_ne h3]
  split
  · rw [za_ne (by omega)]
  · rw [za_ne (by omega), za_ne (by omega)]
/-- it ends, in the model -/
theorem zr_E {K : Type} [Lean.Grind.CommRing K] {p : Int} {φ : Int → K} (h : zKp K p φ) (hpr : zPr p) : ∀ (n fu : Nat) (F G : Nat → Int) (S : zS2), zrE p n F G → n ≤ fu → zcan p F → zcan p G → S 0 10 = p → zRG F S 16 → zRG G S 17 → zqE fu S
  | 0, _, _, _, _, hE, _, _, _, _, _, _ => hE.elim
  | n + 1, fu, F, G, S, hE, hf, cF, cG, h10, r16, r17 => by
    obtain ⟨fu, rfl⟩ : ∃ k, fu = k + 1 := ⟨fu - 1, by omega⟩
    have hp := zPr_2 hpr
    rcases hE with w | ⟨w, wl, hE⟩ | ⟨w, hE⟩ | ⟨w, hE⟩
    · have q := zwh_0 w
      exact (zr_W0 (S := S) (by rw [r16 0 (by decide), r17 0 (by decide)]; exact q) fu 0).2
    · obtain ⟨q1, q2, q3⟩ := zwh_1 w
      obtain ⟨_, e2⟩ := zr_W1 (S := S) (by rw [r16 0 (by decide)]; exact q1) (by rw [r17 0 (by decide)]; exact q2) (by rw [zm_grt_f r16]; exact q3) fu 0
      have g := zm_goes_fr S 1
      rw [show ((1 : Nat) : Int) = 1 from rfl] at g
      have g16 : zRG F (zm_goesBy S 1) 16 := fun i hi => (g 16 i (by decide) (by decide) (by omega)).trans (r16 i hi)
      obtain ⟨s1, s2⟩ := zm_spl g16
      exact e2 (zr_E h hpr n fu _ _ _ hE (by omega) (zspl_can (by omega) cF) cG ((s2 0 10 (by decide)).trans ((g 0 10 (by decide) (by decide) (by decide)).trans h10)) s1 (fun i hi => (s2 17 i (by decide)).trans ((g 17 i (by decide) (by decide) (by omega)).trans (r17 i hi))))
    · obtain ⟨q1, q2, q3, q4⟩ := zwh_2 w
      obtain ⟨_, e2⟩ := zr_W2 (S := S) (by rw [r16 0 (by decide)]; exact q1) (by rw [r17 0 (by decide)]; exact q2) (by rw [zm_grt_f r16]; omega) (by rw [zm_grt_f r16, zm_grt_g r17]; omega) fu 0
      have g := zm_goes_fr S 2
      rw [show ((2 : Nat) : Int) = 2 from rfl] at g
      obtain ⟨s1, s2⟩ := zm_swp (zm_goesBy S 2)
      exact e2 (zr_E h hpr n fu _ _ _ hE (by omega) cG cF ((s2 0 10 (by decide) (by decide)).trans ((g 0 10 (by decide) (by decide) (by decide)).trans h10)) (fun i hi => (s1 i hi).1.trans ((g 17 i (by decide) (by decide) (by omega)).trans (r17 i hi))) (fun i hi => (s1 i hi).2.trans ((g 16 i (by decide) (by decide) (by omega)).trans (r16 i hi))))
    · obtain ⟨q1, q2, q3, q4⟩ := zwh_3 w
      have rF := zgrt_rng F
      have rG := zgrt_rng G
      obtain ⟨_, e2⟩ := zr_W3 (S := S) (by rw [r16 0 (by decide)]; exact q1) (by rw [r17 0 (by decide)]; exact q2) (by rw [zm_grt_f r16]; omega) (by rw [zm_grt_g r17]; omega) (by rw [zm_grt_f r16, zm_grt_g r17]; exact q4) fu 0
      rw [zm_grt_f r16, zm_grt_g r17] at e2
      obtain ⟨x, hx⟩ : ∃ x : Nat, zgrt F = x := ⟨(zgrt F).toNat, by omega⟩
      obtain ⟨y, hy⟩ : ∃ y : Nat, zgrt G = y := ⟨(zgrt G).toNat, by omega⟩
      have hFx : F (17 * x) ≠ 0 := by
        rcases zgrt_sp F with ⟨a, _⟩ | ⟨k, k1, k2, k3, _⟩
        · omega
        · have : k = x := by omega
          rw [← this]; exact k3
      have g := zm_goes_fr S 3
      rw [show ((3 : Nat) : Int) = 3 from rfl] at g
      have g16 : zRG F (zm_goesBy S 3) 16 := fun i hi => (g 16 i (by decide) (by decide) (by omega)).trans (r16 i hi)
      have g17 : zRG G (zm_goesBy S 3) 17 := fun i hi => (g 17 i (by decide) (by decide) (by omega)).trans (r17 i hi)
      have g10 := (g 0 10 (by decide) (by decide) (by decide)).trans h10
      obtain ⟨s1, s2⟩ := zm_cut h hpr g10 cF cG g16 g17 hx hy (by omega) (by omega) hFx
      rw [hx, hy] at e2
      exact e2 (zr_E h hpr n fu _ _ _ hE (by omega) cF (zcut_can (by omega) (Int.le_refl _) cG) ((s2 0 10 (by decide)).trans g10) (fun i hi => (s2 16 i (by decide)).trans (g16 i hi)) s1)
end ZHb
