section ZFf
/-- numbers laid into a grid below a DEGREE -/
theorem zm_triD {S : zS2} {p : Int} {g D : Nat} {v : Nat → Nat → Int} {so : Int → zS2 → zS2} {si : Int → Int → zS2 → zS2} (hD : D ≤ 5) (hS : S 0 10 = p) (ho : ∀ (i : Nat) (X : zS2), i < D → so i X = zfor (si i) 0 X (D - i)) (hi : ∀ (i j : Nat) (X : zS2), i + j < D → X 0 10 = p → (∀ k q : Nat, k ≠ 3 → X k q = S k q) → X 3 (25 * g + 5 * i + j) = S 3 (25 * g + 5 * i + j) → si i j X = za X 3 (25 * g + 5 * i + j) (v i j % p)) : (∀ k q : Nat, k ≠ 3 → (zfor so 0 S D) k q = S k q) ∧ (∀ q : Nat, ¬ (25 * g ≤ q ∧ q < 25 * g + 25) → (zfor so 0 S D) 3 q = S 3 q) ∧ ∀ A B : Nat, A < 5 → B < 5 → (zfor so 0 S D) 3 (25 * g + 5 * A + B) = if A + B < D then v A B % p else S 3 (25 * g + 5 * A + B) := by
  have h : (fun (n : Nat) (X : zS2) => (∀ k q : Nat, k ≠ 3 → X k q = S k q) ∧ (∀ q : Nat, ¬ (25 * g ≤ q ∧ q < 25 * g + 25) → X 3 q = S 3 q) ∧ ∀ A B : Nat, A < 5 → B < 5 → X 3 (25 * g + 5 * A + B) = if A < n ∧ A + B < D then v A B % p else S 3 (25 * g + 5 * A + B)) D (zfor so 0 S D) := by
    refine zfor_ix (I := fun (n : Nat) (X : zS2) => (∀ k q : Nat, k ≠ 3 → X k q = S k q) ∧ (∀ q : Nat, ¬ (25 * g ≤ q ∧ q < 25 * g + 25) → X 3 q = S 3 q) ∧ ∀ A B : Nat, A < 5 → B < 5 → X 3 (25 * g + 5 * A + B) = if A < n ∧ A + B < D then v A B % p else S 3 (25 * g + 5 * A + B)) ⟨fun _ _ _ => rfl, fun _ _ => rfl, fun A B _ _ => by rw [if_neg (by omega)]⟩ D (fun i X hi5 hX => ?_)
    rw [show 0 + (i : Int) = (i : Int) by omega, ho i X hi5]
    have h2 : (fun (n : Nat) (Y : zS2) => (∀ k q : Nat, k ≠ 3 → Y k q = S k q) ∧ (∀ q : Nat, ¬ (25 * g ≤ q ∧ q < 25 * g + 25) → Y 3 q = S 3 q) ∧ ∀ A B : Nat, A < 5 → B < 5 → Y 3 (25 * g + 5 * A + B) = if (A < i ∧ A + B < D) ∨ (A = i ∧ B < n) then v A B % p else S 3 (25 * g + 5 * A + B)) (D - i) (zfor (si i) 0 X (D - i)) := by
      refine zfor_ix (I := fun (n : Nat) (Y : zS2) => (∀ k q : Nat, k ≠ 3 → Y k q = S k q) ∧ (∀ q : Nat, ¬ (25 * g ≤ q ∧ q < 25 * g + 25) → Y 3 q = S 3 q) ∧ ∀ A B : Nat, A < 5 → B < 5 → Y 3 (25 * g + 5 * A + B) = if (A < i ∧ A + B < D) ∨ (A = i ∧ B < n) then v A B % p else S 3 (25 * g + 5 * A + B)) ⟨hX.1, hX.2.1, fun A B hA hB => ?_⟩ (D - i) (fun j Y hj hY => ?_)
      · rw [hX.2.2 A B hA hB]
        by_cases q : A < i ∧ A + B < D
        · rw [if_pos q, if_pos (by omega)]
        · rw [if_neg q, if_neg (by omega)]
      · have e0 := hY.2.2 i j (by omega) (by omega)
        rw [if_neg (by omega)] at e0
        rw [show 0 + (j : Int) = (j : Int) by omega, hi i j Y (by omega) (by rw [hY.1 0 10 (by decide), hS]) hY.1 e0]
        refine ⟨fun k q hk => by rw [za_ne (by omega)]; exact hY.1 k q hk, fun q hq => by rw [za_ne (by omega)]; exact hY.2.1 q hq, fun A B hA hB => ?_⟩
        by_cases e : A = i ∧ B = j
        · rw [e.1, e.2, za_same, if_pos (by omega)]
        · rw [za_ne (by omega), hY.2.2 A B hA hB]
          by_cases q : (A < i ∧ A + B < D) ∨ (A = i ∧ B < j)
          · rw [if_pos q, if_pos (by omega)]
          · rw [if_neg q, if_neg (by omega)]
    refine ⟨h2.1, h2.2.1, fun A B hA hB => ?_⟩
    rw [h2.2.2 A B hA hB]
    by_cases q : (A < i ∧ A + B < D) ∨ (A = i ∧ B < D - i)
    · rw [if_pos q, if_pos (by omega)]
    · rw [if_neg q, if_neg (by omega)]
  refine ⟨h.1, h.2.1, fun A B hA hB => ?_⟩
  rw [h.2.2 A B hA hB]
  by_cases q : A + B < D
  · rw [if_pos q, if_pos (by omega)]
  · rw [if_neg q, if_neg (by omega)]
theorem kc_canc {K : Type} [Lean.Grind.CommRing K] (hK : ka_F K) {A B w : Nat → Nat → K} (pA : kc_pl A) (pB : kc_pl B) {nw : Nat} (w1 : ∀ i j, nw < i + j → w i j = 0) (w2 : ∃ i j, i + j = nw ∧ w i j ≠ 0) (e : kc_mul A w = kc_mul B w) : A = B := by
  have pD : kc_pl (fun i j => A i j + (-1) * B i j) := by
    obtain ⟨n, hn⟩ := pA
    obtain ⟨m, hm⟩ := pB
    refine ⟨n + m, fun i j hij => ?_⟩
    show A i j + (-1) * B i j = 0
    rw [hn i j (by omega), hm i j (by omega), ka_mz, ka_az]
  have z : kc_mul (fun i j => A i j + (-1) * B i j) w = fun _ _ => 0 := by
    rw [kc_mul_ac, e]
    funext i j
    show kc_mul B w i j + (-1) * kc_mul B w i j = 0
    generalize kc_mul B w i j = x
    grind
  refine funext fun i => funext fun j => Classical.byContradiction fun q => ?_
  obtain ⟨nd, d1, d2⟩ := kc_ed pD ⟨i, j, fun y => q (by
    have y2 : A i j + (-1) * B i j = 0 := y
    generalize A i j = a at y2 ⊢
    generalize B i j = b at y2 ⊢
    grind)⟩
  obtain ⟨x, y, _, h2⟩ := kc_exact hK d1 w1 d2 w2
  exact h2 (congrFun (congrFun z x) y)
end ZFf
