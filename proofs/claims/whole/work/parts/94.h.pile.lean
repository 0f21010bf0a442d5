section ZGh
/-- the line that is to be piled, and the lines of the pile -/
def kp_v {K : Type} [Lean.Grind.CommRing K] (φ : Int → K) (W : Nat) (S : zS2) : Nat → K := fun k => if k < W then φ (S 12 k) else 0
def kp_x {K : Type} [Lean.Grind.CommRing K] (φ : Int → K) (W : Nat) (S : zS2) (r : Nat) : Nat → K := fun k => if k < W then φ (S 10 (325 * r + k)) else 0
/-- a pile of n lines -/
def kp_E {K : Type} [Lean.Grind.CommRing K] (φ : Int → K) (p : Int) (W n : Nat) (S : zS2) : Prop := S 0 10 = p ∧ S 0 24 = W ∧ S 0 23 = n ∧ (∀ c : Nat, c < W → S 11 c = -1 ∨ ∃ r : Nat, r < n ∧ S 11 c = r ∧ φ (S 10 (325 * r + c)) = 1 ∧ ∀ k : Nat, k < c → φ (S 10 (325 * r + k)) = 0) ∧ (∀ r : Nat, r < n → ∃ c : Nat, c < W ∧ S 11 c = r) ∧ (∀ r k : Nat, r < n → k < W → 0 ≤ S 10 (325 * r + k) ∧ S 10 (325 * r + k) < p) ∧ kl_fr (kp_x φ W S) n
theorem kp_E.same {K : Type} [Lean.Grind.CommRing K] {φ : Int → K} {p : Int} {W n : Nat} {S T : zS2} (h : kp_E φ p W n S) (h0 : ∀ a i : Nat, a = 10 ∨ a = 11 ∨ (a = 0 ∧ (i = 10 ∨ i = 23 ∨ i = 24)) → T a i = S a i) : kp_E φ p W n T := by
  obtain ⟨a1, a2, a3, a4, a5, a6, a7⟩ := h
  have ex : kp_x φ W T = kp_x φ W S := funext fun r => funext fun k => by
    unfold kp_x
    rw [h0 10 _ (by omega)]
  refine ⟨by rw [h0 0 10 (by omega), a1], by rw [h0 0 24 (by omega), a2], by rw [h0 0 23 (by omega), a3], fun c hc => ?_, fun r hr => ?_, fun r k hr hk => ?_, by rw [ex]; exact a7⟩
  · rw [h0 11 c (by omega)]
    rcases a4 c hc with z | ⟨r, z1, z2, z3, z4⟩
    · exact Or.inl z
    · exact Or.inr ⟨r, z1, z2, by rw [h0 10 _ (by omega)]; exact z3, fun k hk => by rw [h0 10 _ (by omega)]; exact z4 k hk⟩
  · obtain ⟨c, c1, c2⟩ := a5 r hr
    exact ⟨c, c1, by rw [h0 11 c (by omega)]; exact c2⟩
  · rw [h0 10 _ (by omega)]
    exact a6 r k hr hk
/-- the line goes down by the pile -/
theorem kp_red {K : Type} [Lean.Grind.CommRing K] {p : Int} {φ : Int → K} (h : zKp K p φ) (hp : 0 < p) {W n : Nat} {S0 : zS2} (hE : kp_E φ p W n S0) : ∀ (fu k : Nat) (S : zS2), k ≤ W → W - k < fu → (∀ a i : Nat, a ≠ 12 → S a i = S0 a i) → (∀ i : Nat, i < W → 0 ≤ S 12 i ∧ S 12 i < p) → (∀ i : Nat, i < k → S 12 i = 0) → (∃ q T, zm_reduced_W2 fu k S = Sum.inr (q, T) ∧ (∀ a i : Nat, a ≠ 12 → T a i = S0 a i) ∧ kl_sp (kp_x φ W S0) n (kp_v φ W S)) ∨ ∃ (q : Nat) (T : zS2), zm_reduced_W2 fu k S = Sum.inl ((q : Int), T) ∧ q < W ∧ (∀ a i : Nat, a ≠ 12 → T a i = S0 a i) ∧ (∀ i : Nat, i < W → 0 ≤ T 12 i ∧ T 12 i < p) ∧ T 12 q ≠ 0 ∧ (∀ i : Nat, i < q → T 12 i = 0) ∧ S0 11 q = -1 ∧ kl_sp (kp_x φ W S0) n (fun k => kp_v φ W S k + (-1) * kp_v φ W T k)
  | 0, k, S, h1, h2, hS, hc, hz => by omega
  | fu + 1, k, S, h1, h2, hS, hc, hz => by
    obtain ⟨a1, a2, a3, a4, a5, a6, a7⟩ := hE
    have s24 : S 0 24 = W := by rw [hS 0 24 (by decide), a2]
    have s10 : S 0 10 = p := by rw [hS 0 10 (by decide), a1]
    by_cases kW : k = W
    · refine Or.inl ⟨k, S, ?_, hS, ?_⟩
      · simp only [zm_reduced_W2]
        rw [if_pos (by rw [s24]; omega)]
      · have e : kp_v φ W S = fun _ => 0 := funext fun i => by
          unfold kp_v
          by_cases q : i < W
          · rw [if_pos q, hz i (by omega), h.z]
          · rw [if_neg q]
        rw [e]
        exact kl_sp_zero _ _
    · have es : zm_reduced_W2 (fu + 1) k S = (if S 12 k = 0 then zm_reduced_W2 fu ((k + 1 : Nat) : Int) S else (if S 11 k = -1 then Sum.inl ((k : Int), S) else zm_reduced_W2 fu ((k + 1 : Nat) : Int) (zfor (zm_reduced_L60 k S) k S (W - k)))) := by
        simp only [zm_reduced_W2, zlet_v]
        rw [if_neg (by rw [s24]; omega), Int.toNat_natCast, s24, show ((W : Int) - 1 + 1 - (k : Int)).toNat = W - k by omega, show (k : Int) + 1 = ((k + 1 : Nat) : Int) by omega]
      rw [es]
      by_cases c0 : S 12 k = 0
      · rw [if_pos c0]
        exact kp_red h hp ⟨a1, a2, a3, a4, a5, a6, a7⟩ fu (k + 1) S (by omega) (by omega) hS hc (fun i hi => by
          by_cases q : i = k
          · rw [q]; exact c0
          · exact hz i (by omega))
      · rw [if_neg c0]
        have s11 : S 11 k = S0 11 k := hS 11 k (by decide)
        by_cases l : S 11 k = -1
        · rw [if_pos l]
          refine Or.inr ⟨k, S, rfl, by omega, hS, hc, c0, hz, by rw [← s11]; exact l, ?_⟩
          have e : (fun k => kp_v φ W S k + (-1) * kp_v φ W S k) = fun _ => (0 : K) := funext fun i => by
            generalize kp_v φ W S i = x
            grind
          rw [e]
          exact kl_sp_zero _ _
        · rw [if_neg l]
          rcases a4 k (by omega) with z | ⟨r, r1, r2, r3, r4⟩
          · exact absurd (s11.trans z) l
          · have f : (fun (m : Nat) (Y : zS2) => (∀ a i : Nat, a ≠ 12 → Y a i = S a i) ∧ ∀ i : Nat, i < W → Y 12 i = if k ≤ i ∧ i < k + m then (S 12 i + (p - S 12 k) * S 10 (325 * r + i)) % p else S 12 i) (W - k) (zfor (zm_reduced_L60 k S) k S (W - k)) := by
              refine zfor_ix (I := fun (m : Nat) (Y : zS2) => (∀ a i : Nat, a ≠ 12 → Y a i = S a i) ∧ ∀ i : Nat, i < W → Y 12 i = if k ≤ i ∧ i < k + m then (S 12 i + (p - S 12 k) * S 10 (325 * r + i)) % p else S 12 i) ⟨fun _ _ _ => rfl, fun i _ => by rw [if_neg (by omega)]⟩ (W - k) (fun m Y hm hY => ?_)
              have e0 := hY.2 (k + m) (by omega)
              rw [if_neg (by omega)] at e0
              have es : zm_reduced_L60 k S ((k : Int) + (m : Int)) Y = za Y 12 (k + m) ((S 12 (k + m) + (p - S 12 k) * S 10 (325 * r + (k + m))) % p) := by
                unfold zm_reduced_L60
                dsimp only
                rw [zlet_v, show ((k : Int) + (m : Int)).toNat = k + m by omega, Int.toNat_natCast, s11, r2, show ((325 * (r : Int)) + ((k : Int) + (m : Int))).toNat = 325 * r + (k + m) by omega, e0, s10, hY.1 0 10 (by decide), s10, hY.1 10 _ (by decide)]
                have nn : 0 ≤ S 12 (k + m) + (p - S 12 k) * S 10 (325 * r + (k + m)) := by
                  have q1 := hc (k + m) (by omega)
                  have q2 := hc k (by omega)
                  have q3 := a6 r (k + m) r1 (by omega)
                  rw [← hS 10 _ (by decide)] at q3
                  have q4 : 0 ≤ (p - S 12 k) * S 10 (325 * r + (k + m)) := Int.mul_nonneg (by omega) q3.1
                  omega
                rw [Int.tmod_eq_emod_of_nonneg nn]
              rw [es]
              refine ⟨fun a i ha => by rw [za_ne (by omega)]; exact hY.1 a i ha, fun i hi => ?_⟩
              by_cases e : i = k + m
              · rw [e, za_same, if_pos (by omega)]
              · rw [za_ne (by omega), hY.2 i hi]
                by_cases y : k ≤ i ∧ i < k + m
                · rw [if_pos y, if_pos (by omega)]
                · rw [if_neg y, if_neg (by omega)]
            obtain ⟨Y, hYd⟩ : ∃ Y, Y = zfor (zm_reduced_L60 k S) k S (W - k) := ⟨_, rfl⟩
            rw [← hYd] at f ⊢
            obtain ⟨f1, f2⟩ := f
            have fc : ∀ i : Nat, i < W → 0 ≤ Y 12 i ∧ Y 12 i < p := fun i hi => by
              rw [f2 i hi]
              split
              · exact ⟨Int.emod_nonneg _ (by omega), Int.emod_lt_of_pos _ hp⟩
              · exact hc i hi
            have fv : ∀ i : Nat, i < W → φ (S 12 i) = φ (Y 12 i) + φ (S 12 k) * φ (S0 10 (325 * r + i)) := fun i hi => by
              rw [f2 i hi, ← hS 10 _ (by decide)]
              by_cases y : k ≤ i ∧ i < k + (W - k)
              · rw [if_pos y, h.em, h.ad, h.ml, h.sb, h.pz]
                generalize φ (S 12 i) = x1
                generalize φ (S 12 k) = x2
                generalize φ (S 10 (325 * r + i)) = x3
                grind
              · rw [if_neg y, hS 10 _ (by decide), r4 i (by omega), ka_mz, ka_az]
            have fk : Y 12 k = 0 := (h.z0 (fc k (by omega))).1 (by
              have e := fv k (by omega)
              rw [r3] at e
              generalize φ (S 12 k) = x2 at e
              generalize φ (Y 12 k) = x1 at e ⊢
              grind)
            have sp : kl_sp (kp_x φ W S0) n (fun k => kp_v φ W S k + (-1) * kp_v φ W Y k) := by
              have own := kl_sp_own (x := kp_x φ W S0) r1
              have e2 := kl_sp_add (kl_sp_zero (kp_x φ W S0) n) own (φ (S 12 k))
              have e3 : (fun k => kp_v φ W S k + (-1) * kp_v φ W Y k) = fun i => (0 : K) + φ (S 12 k) * kp_x φ W S0 r i := funext fun i => by
                unfold kp_v kp_x
                by_cases y : i < W
                · rw [if_pos y, if_pos y, if_pos y, fv i y]
                  generalize φ (Y 12 i) = x1
                  generalize φ (S 12 k) * φ (S0 10 (325 * r + i)) = x2
                  grind
                · rw [if_neg y, if_neg y, if_neg y, ka_mz, ka_mz]
              rw [e3]
              exact e2
            rcases kp_red h hp ⟨a1, a2, a3, a4, a5, a6, a7⟩ fu (k + 1) Y (by omega) (by omega) (fun a i ha => by rw [f1 a i ha, hS a i ha]) fc (fun i hi => by
              by_cases q : i = k
              · rw [q]; exact fk
              · rw [f2 i (by omega), if_neg (by omega)]; exact hz i (by omega)) with ⟨q, T, t1, t2, t3⟩ | ⟨q, T, t1, t2, t3, t4, t5, t6, t7, t8⟩
            · refine Or.inl ⟨q, T, t1, t2, ?_⟩
              have e2 := kl_sp_add sp t3 1
              have e3 : (fun i => (kp_v φ W S i + (-1) * kp_v φ W Y i) + 1 * kp_v φ W Y i) = kp_v φ W S := funext fun i => by
                generalize kp_v φ W S i = x1
                generalize kp_v φ W Y i = x2
                grind
              rw [← e3]
              exact e2
            · refine Or.inr ⟨q, T, t1, t2, t3, t4, t5, t6, t7, ?_⟩
              have e2 := kl_sp_add sp t8 1
              have e3 : (fun i => (kp_v φ W S i + (-1) * kp_v φ W Y i) + 1 * (kp_v φ W Y i + (-1) * kp_v φ W T i)) = fun i => kp_v φ W S i + (-1) * kp_v φ W T i := funext fun i => by
                generalize kp_v φ W S i = x1
                generalize kp_v φ W Y i = x2
                generalize kp_v φ W T i = x3
                grind
              rw [← e3]
              exact e2
end ZGh
