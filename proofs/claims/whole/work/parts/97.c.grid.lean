section ZJc
/-- a grid of the model holds it -/
def zgE (S : zS2) (g : Nat) (c : Nat → Int) : Prop := ∀ q : Nat, q < 25 → S 3 (25 * g + q) = c q
theorem zgE.fr {S S' : zS2} {g : Nat} {c : Nat → Int} (h : zgE S g c) (e : ∀ i : Nat, 25 * g ≤ i → i < 25 * g + 25 → S' 3 i = S 3 i) : zgE S' g c := fun q hq => by rw [e _ (by omega) (by omega)]; exact h q hq
theorem zgE.ext {S : zS2} {g : Nat} {c d : Nat → Int} (h : ∀ i j : Nat, i + j ≤ 4 → S 3 (25 * g + (5 * i + j)) = c (5 * i + j)) (fS : ∀ i j : Nat, i < 5 → j < 5 → 4 < i + j → S 3 (25 * g + (5 * i + j)) = 0) (fc : zflt c) : zgE S g c := fun q hq => by
  have e : q = 5 * (q / 5) + q % 5 := by omega
  rw [e]
  by_cases l : q / 5 + q % 5 ≤ 4
  · exact h _ _ l
  · rw [fS _ _ (by omega) (by omega) (by omega), fc _ _ (by omega) (by omega) (by omega)]
theorem zgE.at {S : zS2} {g : Nat} {c : Nat → Int} (h : zgE S g c) {i j : Nat} (hi : i < 5) (hj : j < 5) : S 3 (25 * g + 5 * i + j) = c (5 * i + j) := by
  rw [show 25 * g + 5 * i + j = 25 * g + (5 * i + j) by omega]
  exact h _ (by omega)
theorem zgE.q {K : Type} [Lean.Grind.CommRing K] {φ : Int → K} {S : zS2} {g : Nat} {c : Nat → Int} (h : zgE S g c) : zq φ (zG S g) = zq φ c := zq_congr (fun q hq => h q hq)
theorem zgE_0 (S : zS2) (g : Nat) : zgE (zm_empties S g) g (zone 0) := fun q hq => by
  rw [zm_empties_sp, if_pos (by omega)]
  unfold zone
  split <;> rfl
theorem zone_flt (n : Int) : zflt (zone n) := fun i j hi hj hij => by
  unfold zone
  rw [if_neg (by omega)]
theorem zgE_n {S : zS2} {g : Nat} {p v : Int} (hS : S 0 10 = p) (hp : 2 ≤ p) : zgE (zm_sets (zm_empties S g) g 0 0 v) g (zone (v % p)) ∧ ∀ a i : Nat, ¬ (a = 3 ∧ 25 * g ≤ i ∧ i < 25 * g + 25) → (zm_sets (zm_empties S g) g 0 0 v) a i = S a i := by
  have e := zm_setsE (X := zm_empties S g) (p := p) (g := g) (i := 0) (j := 0) (v := v) (by rw [zm_empties_sp, if_neg (by omega), hS]) (by omega)
  have e' : zm_sets (zm_empties S g) g 0 0 v = za (zm_empties S g) 3 (25 * g + 5 * 0 + 0) (v % p) := e
  rw [e']
  refine ⟨fun q hq => ?_, fun a i h => ?_⟩
  · unfold zone
    by_cases c : q = 0
    · rw [c, if_pos rfl, show 25 * g + 5 * 0 + 0 = 25 * g + 0 by omega, za_same]
    · rw [if_neg c, za_ne (by omega), zm_empties_sp, if_pos (by omega)]
  · rw [za_ne (by omega), zm_empties_sp, if_neg h]
/-- the product, both -/
theorem zE_mul {p : Int} (hpr : zPr p) {S : zS2} (hS : S 0 10 = p) (to a b : Nat) {c d : Nat → Int} (ha : zgE S a c) (hb : zgE S b d) (cc : zcan p c) (cd : zcan p d) : (zmuc c d ∧ ∃ T, zm_multiplies S to a b = (0, T) ∧ ∀ k i : Nat, k ≠ 4 → T k i = S k i) ∨ (¬ zmuc c d ∧ ∃ U, zm_multiplies S to a b = (1, U) ∧ zgE U to (zprod c d p) ∧ ∀ k i : Nat, k ≠ 4 → ¬ (k = 3 ∧ 25 * to ≤ i ∧ i < 25 * to + 25) → U k i = S k i) := by
  obtain ⟨K, iK, φ, h⟩ := zKp_ex hpr
  have hp := zPr_2 hpr
  have tc := zT_le c
  have td := zT_le d
  have z1 : ∀ e : Nat → Int, ztop e < 0 → zq φ e = fun _ _ => 0 := fun e he => funext fun i => funext fun j => by
    by_cases q : i + j ≤ 4
    · rw [zq_t q, zT_z (c := e) q (by omega), h.z]
    · exact zq_f q
  have dg : ∀ e : Nat → Int, zcan p e → 0 ≤ ztop e → ∃ n : Nat, (n : Int) = ztop e ∧ (∀ i j, n < i + j → zq φ e i j = 0) ∧ ∃ i j, i + j = n ∧ zq φ e i j ≠ 0 := fun e he h0 => by
    obtain ⟨n, hn⟩ : ∃ n : Nat, (n : Int) = ztop e := ⟨(ztop e).toNat, by omega⟩
    exact ⟨n, hn, zT_ed h (fun i j _ => he _) hn⟩
  rcases zm_mulG h to a b hS (by omega) with ⟨T, t1, t2, A, B, t3, t4⟩ | ⟨U, u1, u2, u3, u4, u5, u6⟩
  · rw [ha.q, hb.q] at t4
    refine Or.inl ⟨Classical.byContradiction fun z => ?_, T, t1, t2⟩
    unfold zmuc at z
    by_cases q1 : 0 ≤ ztop c
    · by_cases q2 : 0 ≤ ztop d
      · obtain ⟨n, n1, n2, _⟩ := dg c cc q1
        obtain ⟨m, m1, m2, _⟩ := dg d cd q2
        exact t4 (kc_zero n2 m2 A B (by omega))
      · rw [z1 d (by omega), kc_mul_comm] at t4
        exact t4 (kc_zmul _ _ _)
    · rw [z1 c (by omega)] at t4
      exact t4 (kc_zmul _ _ _)
  · rw [ha.q, hb.q] at u3 u5
    refine Or.inr ⟨fun z => ?_, U, u1, ?_, u2⟩
    · obtain ⟨n, n1, n2, n3⟩ := dg c cc z.1
      obtain ⟨m, m1, m2, m3⟩ := dg d cd z.2.1
      obtain ⟨i, j, e1, e2⟩ := kc_exact h.F n2 m2 n3 m3
      have := z.2.2
      exact e2 (u3 i j (by omega))
    · have e := zq_prod h c d (fun i j hij => u3 i j hij)
      have e2 : zq φ (zprod c d p) = zq φ (zG U to) := e.trans u5.symm
      refine zgE.ext (d := c) (fun i j hij => ?_) (fun i j hi hj hij => u6 i j hi hj hij) (zprod_fl c d p)
      exact (zq_ext h (zprod_can (by omega)) u4 e2 hij).symm
theorem zaddS_fl' {c d : Nat → Int} {o p : Int} (h : zflt c) : zflt (zaddS c d 0 0 o p) := zaddS_fl h
/-- a TERM comes to the SUM, both -/
theorem zE_add {p : Int} (hpr : zPr p) {S : zS2} (hS : S 0 10 = p) {to fr : Nat} (hne : to ≠ fr) {c d : Nat → Int} (hc : zgE S to c) (hd : zgE S fr d) (cc : zcan p c) (fc : zflt c) (fd : zflt d) {sg o : Int} (hs : (sg = 1 ∧ o = 1) ∨ (sg = -1 ∧ o = p - 1)) : zgE (zm_adds S to fr sg) to (zaddS c d 0 0 o p) ∧ ∀ a i : Nat, ¬ (a = 3 ∧ 25 * to ≤ i ∧ i < 25 * to + 25) → (zm_adds S to fr sg) a i = S a i := by
  obtain ⟨K, iK, φ, h⟩ := zKp_ex hpr
  have hp := zPr_2 hpr
  obtain ⟨a1, a2, a3⟩ := zm_adds_sp (S := S) (p := p) (to := to) (fr := fr) hS (by omega) hne sg
  refine ⟨zgE.ext (d := c) (fun i j hij => ?_) (fun i j hi hj hij => ?_) (zaddS_fl fc), fun a i hq => ?_⟩
  · have e := a3 i j (by omega) (by omega)
    rw [show 25 * to + 5 * i + j = 25 * to + (5 * i + j) by omega, show 25 * fr + 5 * i + j = 25 * fr + (5 * i + j) by omega] at e
    rw [e, hc _ (by omega), hd _ (by omega)]
    have can : zcan p (zaddS c d 0 0 o p) := zaddS_can (by omega) (Int.le_refl _) cc
    refine h.ij ⟨Int.emod_nonneg _ (by omega), Int.emod_lt_of_pos _ (by omega)⟩ (can _) ?_
    have e2 := zK_addS h c d 0 0 o hij
    have e3 : φ (zaddS c d 0 0 o p (5 * i + j)) = φ (c (5 * i + j)) + φ o * φ (d (5 * i + j)) := by
      have e4 := e2
      rw [if_pos ⟨Nat.zero_le _, Nat.zero_le _⟩] at e4
      exact e4
    rw [e3, h.em, h.ad, h.ml]
    rcases hs with ⟨s1, s2⟩ | ⟨s1, s2⟩
    · rw [s1, s2]
    · rw [s1, s2, h.sb, h.pz, h.ng, h.o]
      generalize φ (d (5 * i + j)) = x
      generalize φ (c (5 * i + j)) = y
      grind
  · have e := a3 i j hi hj
    rw [show 25 * to + 5 * i + j = 25 * to + (5 * i + j) by omega, show 25 * fr + 5 * i + j = 25 * fr + (5 * i + j) by omega] at e
    rw [e, hc _ (by omega), hd _ (by omega), fc i j hi hj hij, fd i j hi hj hij, Int.mul_zero, Int.add_zero, Int.zero_emod]
  · by_cases l : a = 3
    · rw [l]
      exact a2 i (by omega)
    · exact a1 a i l
/-- one level of brackets, both -/
def zLv (p : Int) (k : Nat) (Q S : zS2) : Prop := (zgE S (12 + 3 * k) (Q (20 + k)) ∧ zcan p (Q (20 + k)) ∧ zflt (Q (20 + k))) ∧ (zgE S (13 + 3 * k) (Q (70 + k)) ∧ zcan p (Q (70 + k)) ∧ zflt (Q (70 + k))) ∧ ((Q 2 k = 0 ∧ S 7 k = 1) ∨ (Q 2 k = 1 ∧ S 7 k = -1))
/-- what work at one level leaves -/
def zQf (o : Nat) (Q Q' : zS2) : Prop := Q' 0 3 = Q 0 3 ∧ Q' 0 4 = Q 0 4 ∧ (∀ k, k ≠ 0 → k ≠ 2 → k ≠ 4 → k ≠ 5 → k ≠ 6 → k ≠ 20 + o → k ≠ 70 + o → Q' k = Q k) ∧ ∀ k, k ≠ o → Q' 2 k = Q 2 k
def zSf (o : Nat) (S S' : zS2) : Prop := ∀ a i : Nat, ¬ (a = 0 ∧ 6 ≤ i ∧ i ≤ 9) → ¬ (a = 7 ∧ i = o) → ¬ (a = 3 ∧ 25 * (12 + 3 * o) ≤ i ∧ i < 25 * (12 + 3 * o) + 75) → ¬ a = 4 → ¬ (a = 3 ∧ 3500 ≤ i) → S' a i = S a i
theorem zQf.rf {o : Nat} {Q : zS2} : zQf o Q Q := ⟨rfl, rfl, fun _ _ _ _ _ _ _ _ => rfl, fun _ _ => rfl⟩
theorem zQf.tr {o : Nat} {Q Q' Q'' : zS2} (h : zQf o Q Q') (h2 : zQf o Q' Q'') : zQf o Q Q'' := ⟨h2.1.trans h.1, h2.2.1.trans h.2.1, fun k a b c d e f g => (h2.2.2.1 k a b c d e f g).trans (h.2.2.1 k a b c d e f g), fun k a => (h2.2.2.2 k a).trans (h.2.2.2 k a)⟩
theorem zSf.rf {o : Nat} {S : zS2} : zSf o S S := fun _ _ _ _ _ _ _ => rfl
theorem zSf.tr {o : Nat} {S S' S'' : zS2} (h : zSf o S S') (h2 : zSf o S' S'') : zSf o S S'' := fun a i q1 q2 q3 q4 q5 => (h2 a i q1 q2 q3 q4 q5).trans (h a i q1 q2 q3 q4 q5)
theorem zFs.sf {o : Nat} {S S' : zS2} (h : zFs S S') : zSf o S S' := fun a i q1 _ _ _ _ => h a i q1
theorem zQf_sr (o : Nat) (Q : zS2) (a b c : Int) : zQf o Q (zsr Q a b c) := by
  obtain ⟨_, _, _, r4, r5⟩ := zsr_0 Q a b c
  exact ⟨r4 3 (by decide), r4 4 (by decide), fun k h0 _ _ _ _ _ _ => r5 k h0, fun k _ => by rw [r5 2 (by decide)]⟩
theorem zLv.fr {p : Int} {k o : Nat} {Q S Q' S' : zS2} (h : zLv p k Q S) (hne : k ≠ o) (hk : k ≤ 40) (ho : o ≤ 40) (hQ : zQf o Q Q') (hS : zSf o S S') : zLv p k Q' S' := by
  obtain ⟨⟨a1, a2, a3⟩, ⟨b1, b2, b3⟩, c⟩ := h
  have e1 : Q' (20 + k) = Q (20 + k) := hQ.2.2.1 _ (by omega) (by omega) (by omega) (by omega) (by omega) (by omega) (by omega)
  have e2 : Q' (70 + k) = Q (70 + k) := hQ.2.2.1 _ (by omega) (by omega) (by omega) (by omega) (by omega) (by omega) (by omega)
  refine ⟨⟨?_, by rw [e1]; exact a2, by rw [e1]; exact a3⟩, ⟨?_, by rw [e2]; exact b2, by rw [e2]; exact b3⟩, ?_⟩
  · rw [e1]
    exact a1.fr (fun i h1 h2 => hS 3 i (by omega) (by omega) (by omega) (by omega) (by omega))
  · rw [e2]
    exact b1.fr (fun i h1 h2 => hS 3 i (by omega) (by omega) (by omega) (by omega) (by omega))
  · rw [hQ.2.2.2 k hne, hS 7 k (by omega) (by omega) (by omega) (by omega) (by omega)]
    exact c
theorem zm_sum_n (o : Nat) : zm_sumOf o = ((12 + 3 * o : Nat) : Int) := by unfold zm_sumOf; omega
theorem zm_prod_n (o : Nat) : zm_productOf o = ((13 + 3 * o : Nat) : Int) := by unfold zm_productOf; omega
theorem zm_atom_n (o : Nat) : zm_atomOf o = ((14 + 3 * o : Nat) : Int) := by unfold zm_atomOf; omega
/-- a TERM begins, in the model -/
theorem zg_term {S : zS2} {p : Int} {o : Nat} (h19 : S 0 19 = o) (hS : S 0 10 = p) (hp : 2 ≤ p) : zgE (zm_beginsTerm S) (13 + 3 * o) (zone 1) ∧ ∀ a i : Nat, ¬ (a = 3 ∧ 25 * (13 + 3 * o) ≤ i ∧ i < 25 * (13 + 3 * o) + 25) → (zm_beginsTerm S) a i = S a i := by
  have e : zm_beginsTerm S = zm_sets (zm_empties S ((13 + 3 * o : Nat) : Int)) ((13 + 3 * o : Nat) : Int) 0 0 1 := by
    unfold zm_beginsTerm
    rw [h19, zm_prod_n, zlet_v, zlet_v, zm_empties_sp, if_neg (by omega), h19, zm_prod_n, zlet_v, zlet_v]
  rw [e]
  have r := zgE_n (S := S) (g := 13 + 3 * o) (v := 1) hS hp
  rw [show (1 : Int) % p = 1 from Int.emod_eq_of_lt (by omega) (by omega)] at r
  exact r
/-- a SUM begins, both -/
theorem zp_begin {n p : Int} {T : Nat → Int} (hp : 2 ≤ p) {Q S : zS2} (h : zPs n T p Q S) {o : Nat} (h19 : S 0 19 = o) (ho : o ≤ 40) (hz : zop n T (Q 0 0)) : zPs n T p (zbg n T o Q) (zm_beginsSum S) ∧ zop n T (zbg n T o Q 0 0) ∧ Q 0 0 ≤ zbg n T o Q 0 0 ∧ zLv p o (zbg n T o Q) (zm_beginsSum S) ∧ zQf o Q (zbg n T o Q) ∧ zSf o S (zm_beginsSum S) := by
  obtain ⟨hU, h8, h6, hr, hq3, h10⟩ := h
  have rk := zsk_r (T := T) hr
  -- the class
  obtain ⟨Q1, hQ1⟩ : ∃ Q1, Q1 = zbg1 o Q := ⟨_, rfl⟩
  have q1 : ∀ k, k ≠ 20 + o → k ≠ 70 + o → Q1 k = Q k := fun k h1 h2 => by
    rw [hQ1]
    unfold zbg1
    rw [zset_ne _ _ h2, zset_ne _ _ h1]
  have q120 : Q1 (20 + o) = zone 0 := by
    rw [hQ1]
    unfold zbg1
    rw [zset_ne _ _ (by omega), zset_self]
  have q170 : Q1 (70 + o) = zone 1 := by
    rw [hQ1]
    unfold zbg1
    rw [zset_self]
  obtain ⟨m, Q2, e2, e3, e4, e5⟩ : ∃ m Q2, ztk n T 45 Q1 = (m, Q2) ∧ m = (if zby n T (zsk n T (Q 0 0)) = 45 then 1 else 0) ∧ Q2 0 0 = (if zby n T (zsk n T (Q 0 0)) = 45 then zsk n T (Q 0 0) + 1 else zsk n T (Q 0 0)) ∧ (∀ j, 3 ≤ j → Q2 0 j = Q 0 j) ∧ ∀ k, k ≠ 0 → Q2 k = Q1 k := by
    have q0 : Q1 0 = Q 0 := q1 0 (by omega) (by omega)
    unfold ztk zskS
    rw [q0]
    by_cases c : zby n T (zsk n T (Q 0 0)) = 45
    · rw [if_pos c]
      obtain ⟨r1, r2, r3, r4, r5⟩ := zsr_0 Q1 (zsk n T (Q 0 0) + 1) (Q 0 1) (Q 0 2)
      exact ⟨1, _, rfl, by rw [if_pos c], by rw [if_pos c]; exact r1, fun j hj => by rw [r4 j hj, q0], r5⟩
    · rw [if_neg c]
      obtain ⟨r1, r2, r3, r4, r5⟩ := zsr_0 Q1 (zsk n T (Q 0 0)) (Q 0 1) (Q 0 2)
      exact ⟨0, _, rfl, by rw [if_neg c], by rw [if_neg c]; exact r1, fun j hj => by rw [r4 j hj, q0], r5⟩
  have eB : zbg n T o Q = zset Q2 2 (zup (Q2 2) o m) := by
    unfold zbg zbg2
    rw [← hQ1, e2]
  -- the model
  obtain ⟨S1, hS1⟩ : ∃ S1, S1 = za (zm_empties S ((12 + 3 * o : Nat) : Int)) 7 o 1 := ⟨_, rfl⟩
  have s1 : ∀ a i : Nat, ¬ (a = 7 ∧ i = o) → ¬ (a = 3 ∧ 25 * (12 + 3 * o) ≤ i ∧ i < 25 * (12 + 3 * o) + 25) → S1 a i = S a i := fun a i h1 h2 => by rw [hS1, za_ne h1, zm_empties_sp, if_neg h2]
  have hU1 : zU n T S1 := hU.same (s1 0 5 (by omega) (by omega)) (fun k => s1 1 k (by omega) (by omega))
  have s16 : S1 0 6 = Q 0 0 := by rw [s1 0 6 (by omega) (by omega), h6]
  have s18 : S1 0 8 = 0 := by rw [s1 0 8 (by omega) (by omega), h8]
  have eM : zm_beginsSum S = if zby n T (zsk n T (Q 0 0)) = 45 then zm_beginsTerm (za (za (za S1 0 6 (zsk n T (Q 0 0))) 0 6 (zsk n T (Q 0 0) + 1)) 7 o (-1)) else zm_beginsTerm (za S1 0 6 (zsk n T (Q 0 0))) := by
    unfold zm_beginsSum
    rw [h19, zm_sum_n, zlet_v, zlet_v, zm_empties_sp, if_neg (by omega), h19, Int.toNat_natCast, ← hS1, zlet_v, zs_isM hU1 (by rw [s16]; exact hr) s18, s16, zlet_v]
    by_cases c : zby n T (zsk n T (Q 0 0)) = 45
    · rw [if_pos c, if_pos c]
      dsimp only
      rw [if_neg (by decide), zlet_v, zlet_v, zlet_v, za_same, za_ne (by omega), za_ne (by omega), s1 0 19 (by omega) (by omega), h19, Int.toNat_natCast]
    · rw [if_neg c, if_neg c]
      dsimp only
      rw [if_pos (show (0 : Int) = 0 from rfl), zlet_v]
  obtain ⟨S2, s20, s21, s22, s23⟩ : ∃ S2, zm_beginsSum S = zm_beginsTerm S2 ∧ S2 0 6 = (if zby n T (zsk n T (Q 0 0)) = 45 then zsk n T (Q 0 0) + 1 else zsk n T (Q 0 0)) ∧ S2 7 o = (if zby n T (zsk n T (Q 0 0)) = 45 then -1 else 1) ∧ ∀ a i : Nat, ¬ (a = 7 ∧ i = o) → ¬ (a = 0 ∧ i = 6) → S2 a i = S1 a i := by
    rw [eM]
    by_cases c : zby n T (zsk n T (Q 0 0)) = 45
    · rw [if_pos c, if_pos c, if_pos c]
      exact ⟨_, rfl, by rw [za_ne (by omega), za_same], by rw [za_same], fun a i h1 h2 => by rw [za_ne h1, za_ne h2, za_ne h2]⟩
    · rw [if_neg c, if_neg c, if_neg c]
      exact ⟨_, rfl, by rw [za_same], by rw [za_ne (by omega), hS1, za_same], fun a i h1 h2 => by rw [za_ne h2]⟩
  obtain ⟨t1, t2⟩ := zg_term (S := S2) (p := p) (o := o) (by rw [s23 0 19 (by omega) (by omega), s1 0 19 (by omega) (by omega), h19]) (by rw [s23 0 10 (by omega) (by omega), s1 0 10 (by omega) (by omega), h10]) hp
  rw [← s20] at t1 t2
  have pos : zbg n T o Q 0 0 = (if zby n T (zsk n T (Q 0 0)) = 45 then zsk n T (Q 0 0) + 1 else zsk n T (Q 0 0)) := by rw [eB, zset_ne _ _ (by decide), e4]
  have hcase : (if zby n T (zsk n T (Q 0 0)) = 45 then zsk n T (Q 0 0) + 1 else zsk n T (Q 0 0)) ≤ n ∧ Q 0 0 ≤ (if zby n T (zsk n T (Q 0 0)) = 45 then zsk n T (Q 0 0) + 1 else zsk n T (Q 0 0)) ∧ zop n T (if zby n T (zsk n T (Q 0 0)) = 45 then zsk n T (Q 0 0) + 1 else zsk n T (Q 0 0)) := by
    by_cases c : zby n T (zsk n T (Q 0 0)) = 45
    · rw [if_pos c]
      have := zby_in (n := n) (T := T) (a := zsk n T (Q 0 0)) (by omega)
      exact ⟨by omega, by omega, zop_at c (by omega) (by omega)⟩
    · rw [if_neg c]
      exact ⟨rk.2, rk.1, zop_sk hz⟩
  refine ⟨⟨?_, ?_, ?_, ?_, ?_, ?_⟩, by rw [pos]; exact hcase.2.2, by rw [pos]; exact hcase.2.1, ⟨⟨?_, ?_, ?_⟩, ⟨?_, ?_, ?_⟩, ?_⟩, ⟨?_, ?_, fun k k0 k2 _ _ _ k20 k70 => ?_, fun k hk => ?_⟩, fun a i h1 h2 h3 h4 h5 => ?_⟩
  · exact hU1.same (by rw [t2 0 5 (by omega), s23 0 5 (by omega) (by omega)]) (fun k => by rw [t2 1 k (by omega), s23 1 k (by omega) (by omega)])
  · rw [t2 0 8 (by omega), s23 0 8 (by omega) (by omega), s18]
  · rw [t2 0 6 (by omega), s21, pos]
  · rw [pos]; omega
  · rw [eB, zset_ne _ _ (by decide), e5.1 3 (by decide), hq3]
  · rw [t2 0 10 (by omega), s23 0 10 (by omega) (by omega), s1 0 10 (by omega) (by omega), h10]
  · rw [eB, zset_ne _ _ (by omega), e5.2 _ (by omega), q120]
    intro q hq
    rw [t2 3 _ (by omega), s23 3 _ (by omega) (by omega), hS1, za_ne (by omega)]
    exact zgE_0 S (12 + 3 * o) q hq
  · rw [eB, zset_ne _ _ (by omega), e5.2 _ (by omega), q120]
    exact zone_can (by omega) (by omega)
  · rw [eB, zset_ne _ _ (by omega), e5.2 _ (by omega), q120]
    exact zone_flt 0
  · rw [eB, zset_ne _ _ (by omega), e5.2 _ (by omega), q170]
    exact t1
  · rw [eB, zset_ne _ _ (by omega), e5.2 _ (by omega), q170]
    exact zone_can (by omega) (by omega)
  · rw [eB, zset_ne _ _ (by omega), e5.2 _ (by omega), q170]
    exact zone_flt 1
  · rw [eB, zset_self, zup_self, e3, t2 7 o (by omega), s22]
    by_cases c : zby n T (zsk n T (Q 0 0)) = 45
    · rw [if_pos c, if_pos c]; exact Or.inr ⟨rfl, rfl⟩
    · rw [if_neg c, if_neg c]; exact Or.inl ⟨rfl, rfl⟩
  · rw [eB, zset_ne _ _ (by decide), e5.1 3 (by decide)]
  · rw [eB, zset_ne _ _ (by decide), e5.1 4 (by decide)]
  · rw [eB, zset_ne _ _ k2, e5.2 k k0, q1 k k20 k70]
  · rw [eB, zset_self, zup_ne _ _ hk, e5.2 2 (by decide), q1 2 (by omega) (by omega)]
  · rw [t2 a i (by omega), s23 a i h2 (by omega), s1 a i h2 (by omega)]
end ZJc
