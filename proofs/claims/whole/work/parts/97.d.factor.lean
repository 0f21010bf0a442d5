section ZJd
theorem zmS_5 (Q : zS2) {c d : Nat} (h : ¬ zmuc (Q c) (Q d)) (hc : c ≠ 6) : (zmS Q c d) c = zprod (Q c) (Q d) (Q 0 3) ∧ ∀ k, k ≠ c → k ≠ 6 → (zmS Q c d) k = Q k := by
  unfold zmS
  refine ⟨?_, fun k h1 h2 => ?_⟩
  · rw [zset_self]
    unfold zmuP
    rw [if_neg h]
  · rw [zset_ne _ _ h1, zset_ne _ _ h2]
theorem zmS_fr (Q : zS2) {c d : Nat} : ∀ k, k ≠ c → k ≠ 6 → (zmS Q c d) k = Q k := fun k h1 h2 => by
  unfold zmS
  rw [zset_ne _ _ h1, zset_ne _ _ h2]
theorem zw91_stop (pw : Int) (fu : Nat) (k : Int) {X : zS2} (hX : ¬ X 0 8 = 0) : (zm_takesAtom_W91 pw fu k X).2 = X := by
  cases fu with
  | zero => rfl
  | succ m =>
    simp only [zm_takesAtom_W91]
    rw [show zm_goesWell X = 0 from if_neg hX]
    by_cases c : pw ≤ k
    · rw [if_pos c]
    · rw [if_neg c, zlet_v, if_pos rfl]
/-- the power, both -/
theorem zp_pow {p : Int} (hpr : zPr p) {o : Nat} (ho : o ≤ 40) {pw : Int} : ∀ (j fu : Nat) (k : Int) (Q S : zS2), k + j = pw → j < fu → Q 0 3 = p → S 0 10 = p → S 0 8 = 0 → S 0 19 = o → zgE S 140 (Q 5) → zcan p (Q 5) → zgE S (14 + 3 * o) (Q 4) → zcan p (Q 4) → (∀ k, k ≠ 5 → k ≠ 6 → (zpwF j Q).2 k = Q k) ∧ (((zpwF j Q).1 = 0 ∧ (zm_takesAtom_W91 pw fu k S).2 0 8 = 4 ∧ (zm_takesAtom_W91 pw fu k S).2 0 9 = S 8 o ∧ ∀ a i : Nat, a ≠ 4 → ¬ (a = 3 ∧ 3500 ≤ i ∧ i < 3525) → ¬ (a = 0 ∧ (i = 8 ∨ i = 9)) → (zm_takesAtom_W91 pw fu k S).2 a i = S a i) ∨ ((zpwF j Q).1 = 1 ∧ zcan p ((zpwF j Q).2 5) ∧ zgE (zm_takesAtom_W91 pw fu k S).2 140 ((zpwF j Q).2 5) ∧ ∀ a i : Nat, a ≠ 4 → ¬ (a = 3 ∧ 3500 ≤ i ∧ i < 3525) → (zm_takesAtom_W91 pw fu k S).2 a i = S a i))
  | 0, fu, k, Q, S, hk, hf, q3, s10, s8, s19, g5, c5, g4, c4 => by
    obtain ⟨fu, rfl⟩ : ∃ m, fu = m + 1 := ⟨fu - 1, by omega⟩
    have e : zm_takesAtom_W91 pw (fu + 1) k S = (k, S) := by
      simp only [zm_takesAtom_W91]
      rw [if_pos (by omega)]
    rw [e]
    exact ⟨fun _ _ _ => rfl, Or.inr ⟨rfl, c5, g5, fun _ _ _ _ => rfl⟩⟩
  | j + 1, fu, k, Q, S, hk, hf, q3, s10, s8, s19, g5, c5, g4, c4 => by
    obtain ⟨fu, rfl⟩ : ∃ m, fu = m + 1 := ⟨fu - 1, by omega⟩
    have hp := zPr_2 hpr
    have eW : ∀ z T, zm_multiplies S 140 140 ((14 + 3 * o : Nat) : Int) = (z, T) → zm_takesAtom_W91 pw (fu + 1) k S = if z = 0 then zm_takesAtom_W91 pw fu (k + 1) (zm_faults T 4 (T 8 ((T 0 19).toNat))) else zm_takesAtom_W91 pw fu (k + 1) T := fun z T hz => by
      simp only [zm_takesAtom_W91]
      rw [if_neg (by omega), show zm_goesWell S = 1 from if_pos s8, zlet_v, if_neg (by decide), s19, zm_atom_n, zlet_v, hz, zlet_v, zlet_v]
    rcases zE_mul hpr s10 140 140 (14 + 3 * o) g5 g4 c5 c4 with ⟨m1, T, t1, t2⟩ | ⟨m1, U, u1, u2, u3⟩
    · have e := eW 0 T t1
      rw [if_pos rfl, t2 0 19 (by decide), s19, Int.toNat_natCast, t2 8 o (by decide), zs_faults (by rw [t2 0 8 (by decide), s8])] at e
      rw [e, zw91_stop _ _ _ (by rw [za_ne (by omega), za_same]; decide), zpwF_t m1]
      refine ⟨fun k h1 h2 => zmS_fr Q k h1 h2, Or.inl ⟨rfl, by rw [za_ne (by omega), za_same], by rw [za_same], fun a i h1 h2 h3 => ?_⟩⟩
      rw [za_ne (by omega), za_ne (by omega), t2 a i h1]
    · have e := eW 1 U u1
      rw [if_neg (by decide)] at e
      obtain ⟨z1, z2⟩ := zmS_5 Q m1 (by decide)
      rw [e, zpwF_f m1]
      have fr : ∀ a i : Nat, a ≠ 4 → ¬ (a = 3 ∧ 3500 ≤ i ∧ i < 3525) → U a i = S a i := fun a i h1 h2 => u3 a i h1 (by omega)
      have ih := zp_pow hpr ho (pw := pw) j fu (k + 1) (zmS Q 5 4) U (by omega) (by omega) (by rw [z2 0 (by decide) (by decide), q3]) (by rw [fr 0 10 (by decide) (by omega), s10]) (by rw [fr 0 8 (by decide) (by omega), s8]) (by rw [fr 0 19 (by decide) (by omega), s19]) (by rw [z1, q3]; exact u2) (by rw [z1, q3]; exact zprod_can (by omega)) (by rw [z2 4 (by decide) (by decide)]; exact g4.fr (fun i h1 h2 => fr 3 i (by decide) (by omega))) (by rw [z2 4 (by decide) (by decide)]; exact c4)
      rw [fr 8 o (by decide) (by omega)] at ih
      refine ⟨fun k h1 h2 => by rw [ih.1 k h1 h2, z2 k h1 h2], ?_⟩
      rcases ih.2 with ⟨w1, w2, w3, w4⟩ | ⟨w1, w3, w4, w5⟩
      · exact Or.inl ⟨w1, w2, w3, fun a i h1 h2 h3 => by rw [w4 a i h1 h2 h3, fr a i h1 h2]⟩
      · exact Or.inr ⟨w1, w3, w4, fun a i h1 h2 => by rw [w5 a i h1 h2, fr a i h1 h2]⟩
/-- both failed, with one fault -/
def zFl (Q' S' : zS2) : Prop := ¬ S' 0 8 = 0 ∧ Q' 0 1 = S' 0 8 ∧ Q' 0 2 = S' 0 9
theorem zFl_of {S' : zS2} {k a : Int} (h8 : S' 0 8 = k) (h9 : S' 0 9 = a) (hk : k ≠ 0) (Q : zS2) : zFl (zfl k a Q) S' := by
  obtain ⟨_, r2, r3, _⟩ := zsr_0 Q (Q 0 0) k a
  exact ⟨by rw [h8]; exact hk, by rw [h8]; exact r2, by rw [h9]; exact r3⟩
/-- the model's FACTOR behind its power -/
def zta2 (n8 : Int) (S8 : zS2) : zS2 := zlet (zm_empties S8 140) (fun S76 => zlet (zm_sets S76 140 0 0 1) (fun S86 => zlet (zm_takesAtom_W91 n8 6 0 S86) (fun q91 => (fun (k91 : Int) (S91 : zS2) => zlet (zm_goesWell S91) (fun z144 => (if z144 = 0 then S91 else zlet (zm_productOf (S91 0 19)) (fun z155 => zlet (zm_productOf (S91 0 19)) (fun z162 => zlet (zm_multiplies S91 z155 z162 140) (fun q168 => (fun (z168 : Int) (S168 : zS2) => (if z168 = 0 then zlet (zm_faults S168 4 (S168 8 ((S168 0 19).toNat))) (fun S185 => S185) else S168)) q168.1 q168.2)))))) q91.1 q91.2)))
theorem zta_e (S : zS2) : zm_takesAtom S = zlet (zm_isMark S 94) (fun q5 => (fun (z5 : Int) (S5 : zS2) => zlet (zm_takesAtom_J8 z5 S5) (fun q8j => (fun (n8j : Int) (S8j : zS2) => zlet (zm_goesWell S8j) (fun z65 => (if z65 = 0 then S8j else zta2 n8j S8j))) q8j.1 q8j.2)) q5.1 q5.2) := rfl
/-- the product by a power, both -/
theorem zp_fac2 {n p : Int} {T : Nat → Int} (hpr : zPr p) {Q S : zS2} (h : zPs n T p Q S) {o : Nat} (h19 : S 0 19 = o) (ho : o ≤ 40) (hL : zLv p o Q S) (g4 : zgE S (14 + 3 * o) (Q 4)) (c4 : zcan p (Q 4)) {pw : Nat} (hpw : pw ≤ 4) : zSf o S (zta2 pw S) ∧ (((zrf3 o (S 8 o) pw Q).1 = 0 ∧ zFl (zrf3 o (S 8 o) pw Q).2 (zta2 pw S)) ∨ ((zrf3 o (S 8 o) pw Q).1 = 1 ∧ zPs n T p (zrf3 o (S 8 o) pw Q).2 (zta2 pw S) ∧ (zrf3 o (S 8 o) pw Q).2 0 0 = Q 0 0 ∧ zLv p o (zrf3 o (S 8 o) pw Q).2 (zta2 pw S) ∧ zQf o Q (zrf3 o (S 8 o) pw Q).2)) := by
  have hp := zPr_2 hpr
  obtain ⟨hU, h8, h6, hr, hq3, h10⟩ := h
  obtain ⟨E, hE⟩ : ∃ E, E = zm_sets (zm_empties S 140) 140 0 0 1 := ⟨_, rfl⟩
  obtain ⟨e1, e2⟩ := zgE_n (S := S) (g := 140) (v := 1) h10 hp.1
  rw [show (1 : Int) % p = 1 from Int.emod_eq_of_lt (by omega) (by omega)] at e1
  have hE' : zm_sets (zm_empties S ((140 : Nat) : Int)) ((140 : Nat) : Int) 0 0 1 = E := hE.symm
  rw [hE'] at e1 e2
  obtain ⟨Q5, hQ5⟩ : ∃ Q5, Q5 = zset Q 5 (zone 1) := ⟨_, rfl⟩
  have q5 : Q5 5 = zone 1 := by rw [hQ5, zset_self]
  have q5o : ∀ k, k ≠ 5 → Q5 k = Q k := fun k hk => by rw [hQ5, zset_ne _ _ hk]
  have pow := zp_pow hpr ho (pw := pw) pw 6 0 Q5 E (by omega) (by omega) (by rw [q5o 0 (by decide), hq3]) (by rw [e2 0 10 (by omega), h10]) (by rw [e2 0 8 (by omega), h8]) (by rw [e2 0 19 (by omega), h19]) (by rw [q5]; exact e1) (by rw [q5]; exact zone_can (by omega) (by omega)) (by rw [q5o 4 (by decide)]; exact g4.fr (fun i h1 h2 => e2 3 i (by omega))) (by rw [q5o 4 (by decide)]; exact c4)
  obtain ⟨V, hV⟩ : ∃ V, V = (zm_takesAtom_W91 (pw : Int) 6 0 E).2 := ⟨_, rfl⟩
  rw [← hV] at pow
  obtain ⟨P, hP⟩ : ∃ P, P = zpwF pw Q5 := ⟨_, rfl⟩
  rw [← hP] at pow
  obtain ⟨pf, pow⟩ := pow
  have eC : zrf3 o (S 8 o) pw Q = if P.1 = 0 then (0, zfl 4 (S 8 o) P.2) else zrf4 o (S 8 o) P.2 := by
    unfold zrf3
    rw [show ((pw : Int) - 0).toNat = pw by omega, ← hQ5, ← hP]
  have eM : ∀ z T, zm_multiplies V (zm_productOf (V 0 19)) (zm_productOf (V 0 19)) 140 = (z, T) → zta2 pw S = if zm_goesWell V = 0 then V else if z = 0 then zm_faults T 4 (T 8 ((T 0 19).toNat)) else T := fun z T hz => by
    unfold zta2
    rw [zlet_v, zlet_v, ← hE, zlet_v, ← hV]
    dsimp only
    rw [zlet_v, zlet_v, zlet_v, hz, zlet_v, zlet_v]
  rcases pow with ⟨w1, w2, w3, w4⟩ | ⟨w1, w3, w4, w5⟩
  · obtain ⟨q, hq⟩ : ∃ q, q = zm_multiplies V (zm_productOf (V 0 19)) (zm_productOf (V 0 19)) 140 := ⟨_, rfl⟩
    have e := eM q.1 q.2 (by rw [← hq])
    rw [if_pos (show zm_goesWell V = 0 from if_neg (by rw [w2]; decide))] at e
    rw [e, eC, if_pos w1]
    refine ⟨fun a i h1 h2 h3 h4 h5 => by rw [w4 a i h4 (by omega) (by omega), e2 a i (by omega)], Or.inl ⟨rfl, zFl_of w2 (by rw [w3, e2 8 o (by omega)]) (by decide) _⟩⟩
  · have fV : ∀ a i : Nat, a ≠ 4 → ¬ (a = 3 ∧ 3500 ≤ i ∧ i < 3525) → V a i = S a i := fun a i h1 h2 => by rw [w5 a i h1 h2, e2 a i (by omega)]
    have v8 : zm_goesWell V = 1 := if_pos (by rw [fV 0 8 (by decide) (by omega), h8])
    have v19 : V 0 19 = o := by rw [fV 0 19 (by decide) (by omega), h19]
    have p70 : P.2 (70 + o) = Q (70 + o) := by rw [pf _ (by omega) (by omega), q5o _ (by omega)]
    have p0 : P.2 0 = Q 0 := by rw [pf _ (by omega) (by omega), q5o _ (by omega)]
    rw [eC, if_neg (by omega)]
    have md := zE_mul hpr (S := V) (by rw [fV 0 10 (by decide) (by omega), h10]) (13 + 3 * o) (13 + 3 * o) 140 (c := P.2 (70 + o)) (d := P.2 5) (by rw [p70]; exact hL.2.1.1.fr (fun i h1 h2 => fV 3 i (by decide) (by omega))) w4 (by rw [p70]; exact hL.2.1.2.1) w3
    rcases md with ⟨m1, T', t1, t2⟩ | ⟨m1, U, u1, u2, u3⟩
    · have e := eM 0 T' (by rw [v19, zm_prod_n]; exact t1)
      rw [if_neg (by rw [v8]; decide), if_pos rfl, t2 0 19 (by decide), v19, Int.toNat_natCast, t2 8 o (by decide), zs_faults (by rw [t2 0 8 (by decide), fV 0 8 (by decide) (by omega), h8])] at e
      have ec : zrf4 o (S 8 o) P.2 = (0, zfl 4 (S 8 o) (zmS P.2 (70 + o) 5)) := by
        unfold zrf4
        rw [if_pos m1]
      rw [e, ec]
      refine ⟨fun a i h1 h2 h3 h4 h5 => by rw [za_ne (by omega), za_ne (by omega), t2 a i h4, fV a i h4 (by omega)], Or.inl ⟨rfl, zFl_of (by rw [za_ne (by omega), za_same]) (by rw [za_same, fV 8 o (by decide) (by omega)]) (by decide) _⟩⟩
    · have e := eM 1 U (by rw [v19, zm_prod_n]; exact u1)
      rw [if_neg (by rw [v8]; decide), if_neg (by decide)] at e
      have ec : zrf4 o (S 8 o) P.2 = (1, zmS P.2 (70 + o) 5) := by
        unfold zrf4
        rw [if_neg m1]
      rw [e, ec]
      obtain ⟨z1, z2⟩ := zmS_5 P.2 m1 (by omega)
      obtain ⟨R, hR⟩ : ∃ R, R = zmS P.2 (70 + o) 5 := ⟨_, rfl⟩
      rw [← hR] at z1 z2
      have fU : ∀ a i : Nat, a ≠ 4 → ¬ (a = 3 ∧ 3500 ≤ i ∧ i < 3525) → ¬ (a = 3 ∧ 25 * (13 + 3 * o) ≤ i ∧ i < 25 * (13 + 3 * o) + 25) → U a i = S a i := fun a i h1 h2 h3 => by rw [u3 a i h1 h3, fV a i h1 h2]
      have r0 : R 0 = Q 0 := by rw [z2 0 (by omega) (by omega), p0]
      have ro : ∀ k, k ≠ 5 → k ≠ 6 → k ≠ 70 + o → R k = Q k := fun k h1 h2 h3 => by rw [z2 k h3 h2, pf k h1 h2, q5o k h1]
      rw [show (1, zmS P.2 (70 + o) 5).2 = R from hR.symm]
      refine ⟨fun a i h1 h2 h3 h4 h5 => fU a i h4 (by omega) (by omega), Or.inr ⟨rfl, ⟨?_, ?_, ?_, ?_, ?_, ?_⟩, ?_, ⟨⟨?_, ?_, ?_⟩, ⟨?_, ?_, ?_⟩, ?_⟩, ⟨?_, ?_, fun k k0 k2 k4 k5 k6 k20 k70 => ro k k5 k6 k70, fun k hk => ?_⟩⟩⟩
      · exact hU.same (fU 0 5 (by decide) (by omega) (by omega)) (fun k => fU 1 k (by decide) (by omega) (by omega))
      · rw [fU 0 8 (by decide) (by omega) (by omega), h8]
      · rw [fU 0 6 (by decide) (by omega) (by omega), r0, h6]
      · rw [r0]; exact hr
      · rw [r0, hq3]
      · rw [fU 0 10 (by decide) (by omega) (by omega), h10]
      · rw [r0]
      · rw [ro _ (by omega) (by omega) (by omega)]
        exact hL.1.1.fr (fun i h1 h2 => fU 3 i (by decide) (by omega) (by omega))
      · rw [ro _ (by omega) (by omega) (by omega)]; exact hL.1.2.1
      · rw [ro _ (by omega) (by omega) (by omega)]; exact hL.1.2.2
      · rw [z1, p0, hq3]; exact u2
      · rw [z1, p0, hq3]; exact zprod_can (by omega)
      · rw [z1]; exact zprod_fl _ _ _
      · rw [ro 2 (by omega) (by omega) (by omega), fU 7 o (by decide) (by omega) (by omega)]
        exact hL.2.2
      · rw [r0]
      · rw [r0]
      · rw [ro 2 (by omega) (by omega) (by omega)]
/-- the power that is told, both -/
theorem zp_factor {n p : Int} {T : Nat → Int} (hpr : zPr p) {Q S : zS2} (h : zPs n T p Q S) {o : Nat} (h19 : S 0 19 = o) (ho : o ≤ 40) (hL : zLv p o Q S) (g4 : zgE S (14 + 3 * o) (Q 4)) (c4 : zcan p (Q 4)) : zSf o S (zm_takesAtom S) ∧ (((zrf n T o (S 8 o) Q).1 = 0 ∧ zFl (zrf n T o (S 8 o) Q).2 (zm_takesAtom S)) ∨ ((zrf n T o (S 8 o) Q).1 = 1 ∧ zPs n T p (zrf n T o (S 8 o) Q).2 (zm_takesAtom S) ∧ Q 0 0 ≤ (zrf n T o (S 8 o) Q).2 0 0 ∧ zLv p o (zrf n T o (S 8 o) Q).2 (zm_takesAtom S) ∧ zQf o Q (zrf n T o (S 8 o) Q).2)) := by
  have hp := zPr_2 hpr
  have hps := h
  obtain ⟨hU, h8, h6, hr, hq3, h10⟩ := h
  have rk := zsk_r (T := T) hr
  obtain ⟨a, ha⟩ : ∃ a, a = zsk n T (Q 0 0) := ⟨_, rfl⟩
  rw [← ha] at rk
  obtain ⟨S1, hS1⟩ : ∃ S1, S1 = za S 0 6 a := ⟨_, rfl⟩
  have f1 : zFs S S1 := by rw [hS1]; exact zFs.rf.za (by omega) _
  have s16 : S1 0 6 = a := by rw [hS1, za_same]
  have s18 : S1 0 8 = 0 := by rw [hS1, za_ne (by omega), h8]
  have eI : zm_isMark S 94 = (if zby n T a = 94 then 1 else 0, S1) := by rw [zs_isM hU hps.pos h8, h6, ← ha, ← hS1]
  -- a power is known
  have step : ∀ (Q1 S2 : zS2) (pw : Nat), pw ≤ 4 → zFs S S2 → S2 0 8 = 0 → S2 0 6 = Q1 0 0 → (Q 0 0 ≤ Q1 0 0 ∧ Q1 0 0 ≤ n) → (∀ j, 3 ≤ j → Q1 0 j = Q 0 j) → (∀ k, k ≠ 0 → Q1 k = Q k) → zSf o S (zta2 pw S2) ∧ (((zrf3 o (S 8 o) pw Q1).1 = 0 ∧ zFl (zrf3 o (S 8 o) pw Q1).2 (zta2 pw S2)) ∨ ((zrf3 o (S 8 o) pw Q1).1 = 1 ∧ zPs n T p (zrf3 o (S 8 o) pw Q1).2 (zta2 pw S2) ∧ Q 0 0 ≤ (zrf3 o (S 8 o) pw Q1).2 0 0 ∧ zLv p o (zrf3 o (S 8 o) pw Q1).2 (zta2 pw S2) ∧ zQf o Q (zrf3 o (S 8 o) pw Q1).2)) := fun Q1 S2 pw hpw f2 s28 s26 hq1 hj hk => by
    have hP1 : zPs n T p Q1 S2 := hps.mv f2 s28 (hj 3 (by decide)) s26 (by omega)
    have hQ1 : zQf o Q Q1 := ⟨hj 3 (by decide), hj 4 (by decide), fun k k0 _ _ _ _ _ _ => hk k k0, fun k _ => by rw [hk 2 (by decide)]⟩
    have L1 : zLv p o Q1 S2 := by
      obtain ⟨⟨a1, a2, a3⟩, ⟨b1, b2, b3⟩, c⟩ := hL
      refine ⟨⟨?_, by rw [hk _ (by omega)]; exact a2, by rw [hk _ (by omega)]; exact a3⟩, ⟨?_, by rw [hk _ (by omega)]; exact b2, by rw [hk _ (by omega)]; exact b3⟩, ?_⟩
      · rw [hk _ (by omega)]; exact a1.fr (fun i _ _ => f2 3 i (by omega))
      · rw [hk _ (by omega)]; exact b1.fr (fun i _ _ => f2 3 i (by omega))
      · rw [hk 2 (by decide), f2 7 o (by omega)]; exact c
    have r := zp_fac2 hpr hP1 (by rw [f2 0 19 (by omega), h19]) ho L1 (by rw [hk 4 (by decide)]; exact g4.fr (fun i _ _ => f2 3 i (by omega))) (by rw [hk 4 (by decide)]; exact c4) hpw
    rw [f2 8 o (by omega)] at r
    refine ⟨f2.sf.tr r.1, ?_⟩
    rcases r.2 with r | ⟨r1, r2, r3, r4, r5⟩
    · exact Or.inl r
    · exact Or.inr ⟨r1, r2, by rw [r3]; exact hq1.1, r4, hQ1.tr r5⟩
  rw [zta_e, eI, zlet_v]
  by_cases c : zby n T a = 94
  · -- a power is told
    rw [if_pos c]
    have ain := zby_in (n := n) (T := T) (a := a) (by omega)
    obtain ⟨Q1, hQ1⟩ : ∃ Q1, Q1 = zsr Q (a + 1) (Q 0 1) (Q 0 2) := ⟨_, rfl⟩
    obtain ⟨r1, r2, r3, r4, r5⟩ := zsr_0 Q (a + 1) (Q 0 1) (Q 0 2)
    rw [← hQ1] at r1 r2 r3 r4 r5
    obtain ⟨S2, hS2⟩ : ∃ S2, S2 = za S1 0 6 (a + 1) := ⟨_, rfl⟩
    have f2 : zFs S S2 := by rw [hS2]; exact f1.za (by omega) _
    have s26 : S2 0 6 = a + 1 := by rw [hS2, za_same]
    have s28 : S2 0 8 = 0 := by rw [hS2, za_ne (by omega), s18]
    have rb := zsk_r (n := n) (T := T) (a := a + 1) (by omega)
    obtain ⟨b, hb⟩ : ∃ b, b = zsk n T (a + 1) := ⟨_, rfl⟩
    have zb : zop n T b := by rw [hb]; exact zop_sk (zop_at c (by omega) (by omega))
    rw [← hb] at rb
    obtain ⟨Q2, hQ2⟩ : ∃ Q2, Q2 = zsr Q1 b (Q1 0 1) (Q1 0 2) := ⟨_, rfl⟩
    obtain ⟨v1, v2, v3, v4, v5⟩ := zsr_0 Q1 b (Q1 0 1) (Q1 0 2)
    rw [← hQ2] at v1 v2 v3 v4 v5
    have eC : zrf n T o (S 8 o) Q = zrf2 n T o (S 8 o) Q2 := by
      unfold zrf
      have et : ztk n T 94 Q = (1, Q1) := by
        unfold ztk
        rw [← ha, if_pos c, hQ1]
      have es : zskS n T Q1 = Q2 := by
        unfold zskS
        rw [r1, ← hb, hQ2]
      rw [et]
      dsimp only
      rw [if_neg (by decide), es]
    have num := zs_number (n := n) (T := T) (S := S2) (hU.fs f2) (by omega) s28
    rw [s26, ← hb] at num
    obtain ⟨z, S3, hz⟩ : ∃ z S3, zm_number S2 = (z, S3) := ⟨_, _, rfl⟩
    rw [hz] at num
    dsimp only at num
    have eJ : zm_takesAtom_J8 1 S1 = (if zm_goesWell S3 = 0 then (if zm_goesWell S3 = 0 then (1, S3) else (z, S3)) else (if z ≤ 4 then (if zm_goesWell S3 = 0 then (1, S3) else (z, S3)) else (if zm_goesWell (zm_faults S3 2 (S3 0 7)) = 0 then (1, zm_faults S3 2 (S3 0 7)) else (z, zm_faults S3 2 (S3 0 7))))) := by
      unfold zm_takesAtom_J8
      rw [if_neg (by decide), zlet_v, s16, ← hS2, hz, zlet_v]
      dsimp only
      rw [zlet_v, zlet_v, zlet_v, zlet_v]
    dsimp only
    rw [eC]
    unfold zrf2
    rw [v1]
    rcases num with ⟨n1, n2⟩ | ⟨⟨n1, _⟩, n2, n3, n4⟩
    · have nd : zdig (zby n T b) = 0 := Classical.byContradiction fun z => n1 ⟨z, zb⟩
      have g3 : zm_goesWell S3 = 0 := if_neg (by rw [n2.2.1]; decide)
      rw [eJ, if_pos g3, if_pos g3, zlet_v]
      dsimp only
      rw [zlet_v, if_pos g3, if_pos nd]
      exact ⟨(f2.tr n2.1).sf, Or.inl ⟨rfl, zFl_of n2.2.1 n2.2.2 (by decide) _⟩⟩
    · rw [if_neg n1]
      have en : zrn n T Q2 = (zrnV (zrnA n T b), zsr Q2 (zrnA n T b).1 (Q2 0 1) (Q2 0 2)) := by
        unfold zrn
        rw [v1]
      rw [en]
      dsimp only
      obtain ⟨x1, x2, x3, x4, x5⟩ := zsr_0 Q2 (zrnA n T b).1 (Q2 0 1) (Q2 0 2)
      rcases n2 with ⟨m1, m2⟩ | ⟨m1, m2, m3, m4, m5, m6, m7⟩
      · have g3 : zm_goesWell S3 = 0 := if_neg (by rw [m2.2.1]; decide)
        rw [eJ, if_pos g3, if_pos g3, zlet_v]
        dsimp only
        rw [zlet_v, if_pos g3, if_pos (Or.inl m1)]
        exact ⟨(f2.tr m2.1).sf, Or.inl ⟨rfl, zFl_of m2.2.1 m2.2.2 (by decide) _⟩⟩
      · have g3 : zm_goesWell S3 = 1 := if_pos m4
        rw [eJ, if_neg (show ¬ zm_goesWell S3 = 0 by rw [g3]; decide), m2]
        by_cases l : zrnV (zrnA n T b) ≤ 4
        · rw [if_pos l, if_neg (show ¬ zm_goesWell S3 = 0 by rw [g3]; decide), zlet_v]
          dsimp only
          rw [zlet_v, if_neg (show ¬ zm_goesWell S3 = 0 by rw [g3]; decide), if_neg (show ¬ (zrnV (zrnA n T b) < 0 ∨ 4 < zrnV (zrnA n T b)) by omega)]
          obtain ⟨w, hw⟩ : ∃ w : Nat, zrnV (zrnA n T b) = w := ⟨(zrnV (zrnA n T b)).toNat, by omega⟩
          rw [hw]
          exact step _ S3 w (by omega) (f2.tr m3) m4 (by rw [x1, m7]) (by rw [x1]; omega) (fun j hj => by rw [x4 j hj, v4 j hj, r4 j hj]) (fun k hk => by rw [x5 k hk, v5 k hk, r5 k hk])
        · have t := zs_flt (S := S) (S' := S3) m4 (f2.tr m3) 2 (S3 0 7)
          have g4 : zm_goesWell (zm_faults S3 2 (S3 0 7)) = 0 := if_neg (by rw [t.2.1]; decide)
          rw [if_neg l, if_pos g4, zlet_v]
          dsimp only
          rw [zlet_v, if_pos g4, if_pos (Or.inr (by omega))]
          exact ⟨t.1.sf, Or.inl ⟨rfl, zFl_of t.2.1 (by rw [t.2.2, m6]) (by decide) _⟩⟩
  · -- no power
    rw [if_neg c]
    obtain ⟨Q1, hQ1⟩ : ∃ Q1, Q1 = zsr Q a (Q 0 1) (Q 0 2) := ⟨_, rfl⟩
    obtain ⟨r1, r2, r3, r4, r5⟩ := zsr_0 Q a (Q 0 1) (Q 0 2)
    rw [← hQ1] at r1 r2 r3 r4 r5
    have eC : zrf n T o (S 8 o) Q = zrf3 o (S 8 o) ((1 : Nat) : Int) Q1 := by
      unfold zrf
      have et : ztk n T 94 Q = (0, Q1) := by
        unfold ztk
        rw [← ha, if_neg c]
        unfold zskS
        rw [← ha, hQ1]
      rw [et]
      dsimp only
      rw [if_pos (show (0 : Int) = 0 from rfl)]
      rfl
    have eJ : zm_takesAtom_J8 0 S1 = (1, S1) := by
      unfold zm_takesAtom_J8
      rw [if_pos rfl]
    dsimp only
    rw [eJ, zlet_v]
    dsimp only
    rw [zlet_v, if_neg (show ¬ zm_goesWell S1 = 0 by rw [show zm_goesWell S1 = 1 from if_pos s18]; decide), eC]
    exact step Q1 S1 1 (by decide) f1 s18 (by rw [s16, r1]) (by rw [r1]; omega) r4 r5
end ZJd
