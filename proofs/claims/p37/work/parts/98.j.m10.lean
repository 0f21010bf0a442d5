section ZWk
theorem kp_wadd {K : Type} [Lean.Grind.CommRing K] (W : Nat) (P Q : Nat → Nat → K) (k : Nat) : kp_w W (fun i j => P i j + Q i j) k = kp_w W P k + kp_w W Q k := by
  unfold kp_w kvec
  by_cases c : k < W
  · rw [if_pos c, if_pos c, if_pos c]
  · rw [if_neg c, if_neg c, if_neg c, ka_az]
/-- one TERM of each DEGREE is not made of lower ones: none is made of those ahead -/
theorem kN_lev {K : Type} [Lean.Grind.CommRing K] {U : (Nat → K) → Prop} {X : Nat → Nat → Nat → K} {t k i j : Nat} (k24 : k ≤ 24) (hij : i + j = k) (no : ¬ kN_S U k (kc_t 1 i j)) (hX : X t = kc_t 1 i j) (hl : ∀ l, l < t → ∀ a b, k ≤ a + b → X l a b = 0) (a : Nat → K) : ¬ U (fun q => kp_w 325 (X t) q + ka_s (fun l => a l * kp_w 325 (X l) q) t) := fun h => by
  refine kN_no k24 hij no (D := fun i j => ka_s (fun l => a l * X l i j) t) (fun x y hxy => ka_s_zero _ (fun l hlt => by rw [hl l hlt x y hxy, ka_mz])) (Eq.mp (congrArg U (funext fun q => ?_)) h)
  rw [kp_wadd, kp_wsum, hX]
theorem kN_sup {K : Type} [Lean.Grind.CommRing K] (P : Nat → Nat → K) : ∀ k, 325 ≤ k → kp_w 325 P k = 0 := fun k hk => if_neg (by omega)
/-- lower ones are enough; or the POINTS are ten at least, on a conic -/
theorem kN_case {K : Type} [Lean.Grind.CommRing K] (hK : ka_F K) {U : (Nat → K) → Prop} (hU : kN_U U) {near : Nat} (n12 : near ≤ 12) (dU : kl_dim U (325 - near)) : (∀ P : Nat → Nat → K, (∀ i j, 25 ≤ i + j → P i j = 0) → kN_S U 9 P) ∨ (10 ≤ near ∧ ∃ Q : Nat → Nat → K, (∃ i j, Q i j ≠ 0) ∧ (∀ i j, 2 < i + j → Q i j = 0) ∧ U (kp_w 325 Q)) := by
  by_cases hk : ∃ k, k ≤ 9 ∧ ∀ i j, i + j = k → kN_S U k (kc_t 1 i j)
  · obtain ⟨k, k9, hk⟩ := hk
    exact Or.inl (fun P hP => (kN_every hU (by omega) hk hP).mono k9)
  · right
    have ex : ∀ k, ∃ ij : Nat × Nat, k ≤ 9 → ij.1 + ij.2 = k ∧ ¬ kN_S U k (kc_t 1 ij.1 ij.2) := fun k => by
      by_cases c : k ≤ 9
      · refine Classical.byContradiction fun no => hk ⟨k, c, fun i j hij => Classical.byContradiction fun z => no ⟨(i, j), fun _ => ⟨hij, z⟩⟩⟩
      · exact ⟨(0, 0), fun z => absurd z c⟩
    obtain ⟨fi, hfi⟩ : ∃ fi : Nat → Nat × Nat, ∀ k, k ≤ 9 → (fi k).1 + (fi k).2 = k ∧ ¬ kN_S U k (kc_t 1 (fi k).1 (fi k).2) := ⟨fun k => Classical.choose (ex k), fun k => Classical.choose_spec (ex k)⟩
    obtain ⟨Y, hY⟩ : ∃ Y : Nat → Nat → Nat → K, Y = fun k => kc_t 1 (fi k).1 (fi k).2 := ⟨_, rfl⟩
    have Y0 : ∀ k, k ≤ 9 → ∀ a b, k < a + b → Y k a b = 0 := fun k h9 a b hab => by
      rw [hY]
      exact if_neg (by have := (hfi k h9).1; omega)
    have top10 := kl_top hK hU.1 (fun t => kp_w 325 (Y t)) 0 (fun a _ t ht => absurd ht (Nat.not_lt_zero _)) 10 (by omega) (fun t _ ht a => kN_lev (X := Y) (k := t) (by omega) (hfi t (by omega)).1 (hfi t (by omega)).2 (by rw [hY]) (fun l hl a b hab => Y0 l (by omega) a b (by omega)) a)
    have ten := kl_modfree hK dU hU.1 (fun t => kp_w 325 (Y t)) top10 hU.2.1 (fun t _ => kN_sup _)
    refine ⟨by omega, Classical.byContradiction fun no => ?_⟩
    have no2 : ∀ Q : Nat → Nat → K, (∀ i j, 2 < i + j → Q i j = 0) → U (kp_w 325 Q) → ∀ i j, Q i j = 0 := fun Q hQ hu i j => Classical.byContradiction fun z => no ⟨Q, ⟨i, j, z⟩, hQ, hu⟩
    obtain ⟨X, hX⟩ : ∃ X : Nat → Nat → Nat → K, X = fun t => if t < 6 then kc_t 1 (ndc t).1 (ndc t).2 else Y (t - 3) := ⟨_, rfl⟩
    have Xa : ∀ t, t < 6 → X t = kc_t 1 (ndc t).1 (ndc t).2 := fun t ht => by
      rw [hX]
      exact if_pos ht
    have Xb : ∀ t, 6 ≤ t → X t = Y (t - 3) := fun t ht => by
      rw [hX]
      exact if_neg (by omega)
    have d3 : ∀ t, t < 6 → (ndc t).1 + (ndc t).2 < 3 := fun t ht => ndc_dg (show t < nT 3 from ht)
    have top13 := kl_top hK hU.1 (fun t => kp_w 325 (X t)) 6 (fun a ha t ht => by
      have ha : U (kp_w 325 (fun i j => ka_s (fun t => a t * X t i j) 6)) := Eq.mp (congrArg U (funext fun q => kp_wsum a X 6 q)) ha
      have z := no2 _ (fun i j hij => ka_s_zero 6 (fun q hq => by
        rw [Xa q hq, show kc_t (1 : K) (ndc q).1 (ndc q).2 i j = 0 from if_neg (by have := d3 q hq; omega), ka_mz])) ha (ndc t).1 (ndc t).2
      rw [ka_s_one (k := t) 6 ht (fun q hq ne => by
        rw [Xa q hq, show kc_t (1 : K) (ndc q).1 (ndc q).2 (ndc t).1 (ndc t).2 = 0 from if_neg (fun ⟨e1, e2⟩ => ne (by
          have := ncol_ndc q
          rw [← e1, ← e2, ncol_ndc] at this
          exact this.symm)), ka_mz]), Xa t ht] at z
      have z : a t * (if (ndc t).1 = (ndc t).1 ∧ (ndc t).2 = (ndc t).2 then (1 : K) else 0) = 0 := z
      rw [if_pos ⟨rfl, rfl⟩] at z
      rw [← z]
      exact (Lean.Grind.Semiring.mul_one _).symm) 13 (by omega) (fun t h6 ht a => kN_lev (X := X) (k := t - 3) (by omega) (hfi (t - 3) (by omega)).1 (hfi (t - 3) (by omega)).2 (by rw [Xb t h6, hY]) (fun l hl a b hab => by
        by_cases c : l < 6
        · rw [Xa l c]
          exact if_neg (by have := d3 l c; omega)
        · rw [Xb l (by omega)]
          exact Y0 _ (by omega) a b (by omega)) a)
    have tn := kl_modfree hK dU hU.1 (fun t => kp_w 325 (X t)) top13 hU.2.1 (fun t _ => kN_sup _)
    omega
theorem kc_mul_z {K : Type} [Lean.Grind.CommRing K] (f : Nat → Nat → K) : kc_mul f (fun _ _ => 0) = fun _ _ => 0 := by
  rw [kc_mul_comm]
  exact funext fun i => funext fun j => kc_zmul f i j
/-- without a common part: the couple is the two themselves -/
theorem kUW_1 {K : Type} [Lean.Grind.CommRing K] (hK : ka_F K) {f g u w hh : Nat → Nat → K} (hU : kUW f g u w hh) (h1 : ∀ i j, 0 < i + j → hh i j = 0) (pf : kc_pl f) (pg : kc_pl g) (f0 : ∃ i j, f i j ≠ 0) (g0 : ∃ i j, g i j ≠ 0) : kUW f g g f (kc_t 1 0 0) := by
  obtain ⟨pu, pw, ph, u0, w0, ef, eg, al⟩ := hU
  have pl1 : kc_pl (kc_t (1 : K) 0 0) := ⟨1, fun i j hij => if_neg (by omega)⟩
  refine ⟨pg, pf, pl1, g0, f0, (kc_1_mul f).symm, (kc_1_mul g).symm, fun u' w' p1 p2 e => ?_⟩
  obtain ⟨c, pc, e1, e2⟩ := al u' w' p1 p2 e
  have eh : hh = kc_t (hh 0 0) 0 0 := funext fun i => funext fun j => by
    by_cases q : i = 0 ∧ j = 0
    · rw [q.1, q.2]
      exact (if_pos ⟨rfl, rfl⟩).symm
    · rw [h1 i j (by omega)]
      exact (if_neg q).symm
  have n0 : hh 0 0 ≠ 0 := fun z => by
    obtain ⟨i, j, ne⟩ := f0
    refine ne ?_
    rw [ef, eh, z, kc_c_mul]
    exact ka_zm _
  obtain ⟨v, hv⟩ := hK.2 _ n0
  have key : ∀ X : Nat → Nat → K, kc_mul (fun i j => v * c i j) (kc_mul hh X) = kc_mul c X := fun X => by
    rw [kc_mul_c, eh, ← kc_mul_assoc, kc_mul_comm c, kc_c_mul, kc_mul_c]
    refine funext fun i => funext fun j => ?_
    have hv : kc_t (hh 0 0) 0 0 0 0 * v = 1 := hv
    have q : kc_t (hh 0 0) 0 0 0 0 = hh 0 0 := if_pos ⟨rfl, rfl⟩
    grind
  obtain ⟨N, hN⟩ := pc
  refine ⟨fun i j => v * c i j, ⟨N, fun i j hij => by
    show v * c i j = 0
    rw [hN i j hij, ka_mz]⟩, ?_, ?_⟩
  · rw [eg, key, e1]
  · rw [ef, key, e2]
end ZWk
