section ZPa
/-- the POLYNOMIAL that a grid holds -/
def zq {K : Type} [Lean.Grind.CommRing K] (φ : Int → K) (c : Nat → Int) : Nat → Nat → K := fun i j => if i + j ≤ 4 then φ (c (5 * i + j)) else 0
theorem zq_t {K : Type} [Lean.Grind.CommRing K] {φ : Int → K} {c : Nat → Int} {i j : Nat} (h : i + j ≤ 4) : zq φ c i j = φ (c (5 * i + j)) := if_pos h
theorem zq_f {K : Type} [Lean.Grind.CommRing K] {φ : Int → K} {c : Nat → Int} {i j : Nat} (h : ¬ i + j ≤ 4) : zq φ c i j = 0 := if_neg h
/-- sums of two letters that meet at one place -/
theorem ka_s_at {K : Type} [Lean.Grind.CommRing K] {A B : Nat} {r u : Nat} (G : Nat → Nat → K) (n : Nat) (m : Nat → Nat) (hm : ∀ i, i < n → i + r = A → u ≤ B → B - u < m i) : ka_s (fun i => ka_s (fun j => if i + r = A ∧ j + u = B then G i j else 0) (m i)) n = if r ≤ A ∧ u ≤ B ∧ A - r < n then G (A - r) (B - u) else 0 := by
  by_cases h : r ≤ A ∧ u ≤ B ∧ A - r < n
  · rw [if_pos h, ka_s_one (k := A - r) n h.2.2 (fun i hi hne => ka_s_zero _ (fun j hj => by rw [if_neg (by omega)])), ka_s_one (k := B - u) (m (A - r)) (hm _ h.2.2 (by omega) h.2.1) (fun j hj hne => by rw [if_neg (by omega)]), if_pos (by omega)]
  · rw [if_neg h]
    exact ka_s_zero _ (fun i hi => ka_s_zero _ (fun j hj => by rw [if_neg (by omega)]))
theorem zK_addS {K : Type} [Lean.Grind.CommRing K] {p : Int} {φ : Int → K} (h : zKp K p φ) (c d : Nat → Int) (r u : Nat) (o : Int) {A B : Nat} (hAB : A + B ≤ 4) : φ (zaddS c d r u o p (5 * A + B)) = φ (c (5 * A + B)) + (if r ≤ A ∧ u ≤ B then φ o * φ (d (5 * (A - r) + (B - u))) else 0) := by
  unfold zaddS
  by_cases hru : r + u ≤ 4
  · rw [show (4 - (r : Int) - (u : Int) + 1 - 0).toNat = 4 - r - u + 1 by omega]
    rw [zK_acc (fun c : Nat → Int => φ (c (5 * A + B))) (F := fun i => ka_s (fun j => if i + r = A ∧ j + u = B then φ o * φ (d (5 * i + j)) else 0) (4 - r - u - i + 1)) (4 - r - u + 1) (fun i c hi => ?_)]
    · rw [ka_s_at (fun i j => φ o * φ (d (5 * i + j))) (4 - r - u + 1) (fun i => 4 - r - u - i + 1) (fun i _ _ _ => by omega)]
      by_cases q : r ≤ A ∧ u ≤ B
      · rw [if_pos q, if_pos (by omega)]
      · rw [if_neg q, if_neg (by omega)]
    unfold zaddS_out
    rw [show 0 + (i : Int) = (i : Int) by omega, show (4 - (r : Int) - (u : Int) - (i : Int) + 1 - 0).toNat = 4 - r - u - i + 1 by omega]
    refine zK_acc (fun c : Nat → Int => φ (c (5 * A + B))) (4 - r - u - i + 1) (fun j c hj => ?_)
    unfold zaddS_in
    rw [show 0 + (j : Int) = (j : Int) by omega, show ((i : Int) * 5 + (j : Int)).toNat = 5 * i + j by omega, show (((i : Int) + (r : Int)) * 5 + (j : Int) + (u : Int)).toNat = 5 * (i + r) + (j + u) by omega]
    by_cases e : d (5 * i + j) ≠ 0
    · rw [if_pos e]
      unfold zup
      by_cases q : i + r = A ∧ j + u = B
      · rw [if_pos (by omega), if_pos q, h.em, h.ad, h.ml, q.1, q.2]
      · rw [if_neg (by omega), if_neg q]; grind
    · rw [if_neg e, Classical.byContradiction e, h.z]
      split <;> grind
  · rw [show (4 - (r : Int) - (u : Int) + 1 - 0).toNat = 0 by omega, if_neg (by omega)]
    show φ (c (5 * A + B)) = φ (c (5 * A + B)) + 0
    grind
theorem zaddS_out4 {c d : Nat → Int} {r u : Nat} {o p : Int} {A B : Nat} (hA : A < 5) (hB : B < 5) (hAB : 4 < A + B) : zaddS c d r u o p (5 * A + B) = c (5 * A + B) := by
  unfold zaddS
  refine zfor_ix (I := fun _ (x : Nat → Int) => x (5 * A + B) = c (5 * A + B)) rfl _ (fun i x hi hx => ?_)
  unfold zaddS_out
  refine zfor_ix (I := fun _ (x : Nat → Int) => x (5 * A + B) = c (5 * A + B)) hx _ (fun j y hj hy => ?_)
  unfold zaddS_in
  split
  · unfold zup
    rw [if_neg (by omega)]; exact hy
  · exact hy
theorem zK_prod {K : Type} [Lean.Grind.CommRing K] {p : Int} {φ : Int → K} (h : zKp K p φ) (a b : Nat → Int) {A B : Nat} (hAB : A + B ≤ 4) : φ (zprod a b p (5 * A + B)) = kc_mul (zq φ a) (zq φ b) A B := by
  unfold zprod
  rw [show (4 + 1 - 0 : Int).toNat = 5 from rfl]
  rw [zK_acc (fun c : Nat → Int => φ (c (5 * A + B))) (F := fun i => ka_s (fun j => if i ≤ A ∧ j ≤ B then zq φ a i j * zq φ b (A - i) (B - j) else 0) (4 - i + 1)) 5 (fun i c hi => ?_), zz0k, h.z]
  · unfold kc_mul
    rw [ka_s_ext (m := A + 1) 5 (by omega) (fun i h1 h2 => ka_s_zero _ (fun j hj => by rw [if_neg (by omega)]))]
    have e : ka_s (fun i => ka_s (fun j => if i ≤ A ∧ j ≤ B then zq φ a i j * zq φ b (A - i) (B - j) else 0) (4 - i + 1)) (A + 1) = ka_s (fun i => ka_s (fun j => zq φ a i j * zq φ b (A - i) (B - j)) (B + 1)) (A + 1) := ka_s_congr _ (fun i hi => by
      rw [ka_s_ext (m := B + 1) (4 - i + 1) (by omega) (fun j h1 h2 => by rw [if_neg (by omega)])]
      exact ka_s_congr _ (fun j hj => by rw [if_pos (by omega)]))
    rw [e]; grind
  unfold zprod_out
  rw [show 0 + (i : Int) = (i : Int) by omega, show (4 - (i : Int) + 1 - 0).toNat = 4 - i + 1 by omega]
  refine zK_acc (fun c : Nat → Int => φ (c (5 * A + B))) (4 - i + 1) (fun j c hj => ?_)
  unfold zprod_in
  rw [show 0 + (j : Int) = (j : Int) by omega, show ((i : Int) * 5 + (j : Int)).toNat = 5 * i + j by omega]
  by_cases e : a (5 * i + j) ≠ 0
  · rw [if_pos e, zK_addS h _ _ _ _ _ hAB]
    by_cases q : i ≤ A ∧ j ≤ B
    · rw [if_pos q, if_pos q, zq_t (by omega), zq_t (by omega)]
    · rw [if_neg q, if_neg q]
  · rw [if_neg e, zq_t (by omega), Classical.byContradiction e, h.z]
    split <;> grind
theorem zprod_fl (a b : Nat → Int) (p : Int) : zflt (zprod a b p) := fun A B hA hB hAB => by
  unfold zprod
  refine zfor_ix (I := fun _ (x : Nat → Int) => x (5 * A + B) = 0) (zz0k _) _ (fun i x hi hx => ?_)
  unfold zprod_out
  refine zfor_ix (I := fun _ (x : Nat → Int) => x (5 * A + B) = 0) hx _ (fun j y hj hy => ?_)
  unfold zprod_in
  split
  · have e := zaddS_out4 (c := y) (d := b) (r := i) (u := j) (o := a ((0 + (i : Int)) * 5 + (0 + (j : Int))).toNat) (p := p) hA hB hAB
    rw [show 0 + (i : Int) = (i : Int) by omega, show 0 + (j : Int) = (j : Int) by omega] at *
    rw [e]; exact hy
  · exact hy
end ZPa
section ZPb
theorem kc_zero {K : Type} [Lean.Grind.CommRing K] {f g : Nat → Nat → K} {n m : Nat} (hf : ∀ i j, n < i + j → f i j = 0) (hg : ∀ i j, m < i + j → g i j = 0) : ∀ i j, n + m < i + j → kc_mul f g i j = 0 := fun i j hij => ka_s_zero _ (fun a ha => ka_s_zero _ (fun b hb => by
  by_cases q : n < a + b
  · rw [hf a b q]; grind
  · rw [hg (i - a) (j - b) (by omega)]; grind))
/-- DEGREES add -/
theorem kc_exact {K : Type} [Lean.Grind.CommRing K] (hK : ka_F K) {f g : Nat → Nat → K} {n m : Nat} (hf : ∀ i j, n < i + j → f i j = 0) (hg : ∀ i j, m < i + j → g i j = 0) (hf1 : ∃ i j, i + j = n ∧ f i j ≠ 0) (hg1 : ∃ i j, i + j = m ∧ g i j ≠ 0) : ∃ i j, i + j = n + m ∧ kc_mul f g i j ≠ 0 := by
  obtain ⟨a0, b0, h1, h2⟩ := hf1
  obtain ⟨c0, d0, h3, h4⟩ := hg1
  obtain ⟨a, ⟨ha, ha2⟩, ham⟩ := ka_min (P := fun a => a ≤ n ∧ f a (n - a) ≠ 0) a0 ⟨by omega, by rw [show n - a0 = b0 by omega]; exact h2⟩
  obtain ⟨c, ⟨hc, hc2⟩, hcm⟩ := ka_min (P := fun c => c ≤ m ∧ g c (m - c) ≠ 0) c0 ⟨by omega, by rw [show m - c0 = d0 by omega]; exact h4⟩
  refine ⟨a + c, (n - a) + (m - c), by omega, fun e => ?_⟩
  unfold kc_mul at e
  have fz : ∀ x y : Nat, x + y = n → x < a → f x y = 0 := fun x y hxy hx => by
    have := ham x hx
    refine Classical.byContradiction fun z => this ⟨by omega, ?_⟩
    rw [show n - x = y by omega]; exact z
  have gz : ∀ x y : Nat, x + y = m → x < c → g x y = 0 := fun x y hxy hx => by
    have := hcm x hx
    refine Classical.byContradiction fun z => this ⟨by omega, ?_⟩
    rw [show m - x = y by omega]; exact z
  have tz : ∀ x y : Nat, x ≤ a + c → y ≤ (n - a) + (m - c) → ¬ (x = a ∧ y = n - a) → f x y * g (a + c - x) ((n - a) + (m - c) - y) = 0 := fun x y hx hy hne => by
    by_cases q : n < x + y
    · rw [hf x y q]; grind
    · by_cases q2 : x + y < n
      · rw [hg _ _ (by omega)]; grind
      · by_cases q3 : x < a
        · rw [fz x y (by omega) q3]; grind
        · rw [gz (a + c - x) _ (by omega) (by omega)]; grind
  rw [ka_s_one (k := a) (a + c + 1) (by omega) (fun x hx hne => ka_s_zero _ (fun y hy => tz x y (by omega) (by omega) (fun z => hne z.1))), ka_s_one (k := n - a) ((n - a) + (m - c) + 1) (by omega) (fun y hy hne => tz a y (by omega) (by omega) (fun z => hne z.2)), show a + c - a = c by omega, show (n - a) + (m - c) - (n - a) = m - c by omega] at e
  rcases hK.dom _ _ e with z | z
  · exact ha2 z
  · exact hc2 z
theorem kc_mul_x {K : Type} [Lean.Grind.CommRing K] (f g : Nat → Nat → K) {A B N M : Nat} (hN : A < N) (hM : B < M) : kc_mul f g A B = ka_s (fun i => ka_s (fun j => if i ≤ A ∧ j ≤ B then f i j * g (A - i) (B - j) else 0) M) N := by
  unfold kc_mul
  rw [ka_s_ext (m := A + 1) N (by omega) (fun i h1 h2 => ka_s_zero _ (fun j hj => by rw [if_neg (by omega)]))]
  refine ka_s_congr _ (fun i hi => ?_)
  rw [ka_s_ext (m := B + 1) M (by omega) (fun j h1 h2 => by rw [if_neg (by omega)])]
  exact ka_s_congr _ (fun j hj => by rw [if_pos (by omega)])
/-- the grid of a model's product -/
def zwdd {K : Type} [Lean.Grind.CommRing K] (φ : Int → K) (U : zS2) (A B : Nat) : K := φ (U 4 (9 * A + B))
end ZPb
section ZPc
/-- numbers laid into a grid, TERM by TERM -/
theorem zm_trif {S : zS2} {p : Int} {g : Nat} {v : Nat → Nat → Int} {so : Int → zS2 → zS2} {si : Int → Int → zS2 → zS2} (hS : S 0 10 = p) (hp : 0 < p) (ho : ∀ (i : Nat) (X : zS2), i < 5 → so i X = zfor (si i) 0 X (5 - i)) (hi : ∀ (i j : Nat) (X : zS2), i + j < 5 → X 0 10 = p → (∀ k q : Nat, k ≠ 3 → X k q = S k q) → si i j X = za X 3 (25 * g + 5 * i + j) (v i j % p)) : (∀ k q : Nat, k ≠ 3 → (zfor so 0 S 5) k q = S k q) ∧ (∀ q : Nat, ¬ (25 * g ≤ q ∧ q < 25 * g + 25) → (zfor so 0 S 5) 3 q = S 3 q) ∧ ∀ A B : Nat, A < 5 → B < 5 → (zfor so 0 S 5) 3 (25 * g + 5 * A + B) = if A + B ≤ 4 then v A B % p else S 3 (25 * g + 5 * A + B) := by
  have h : (fun (n : Nat) (X : zS2) => (∀ k q : Nat, k ≠ 3 → X k q = S k q) ∧ (∀ q : Nat, ¬ (25 * g ≤ q ∧ q < 25 * g + 25) → X 3 q = S 3 q) ∧ ∀ A B : Nat, A < 5 → B < 5 → X 3 (25 * g + 5 * A + B) = if A < n ∧ A + B ≤ 4 then v A B % p else S 3 (25 * g + 5 * A + B)) 5 (zfor so 0 S 5) := by
    refine zfor_ix (I := fun (n : Nat) (X : zS2) => (∀ k q : Nat, k ≠ 3 → X k q = S k q) ∧ (∀ q : Nat, ¬ (25 * g ≤ q ∧ q < 25 * g + 25) → X 3 q = S 3 q) ∧ ∀ A B : Nat, A < 5 → B < 5 → X 3 (25 * g + 5 * A + B) = if A < n ∧ A + B ≤ 4 then v A B % p else S 3 (25 * g + 5 * A + B)) ⟨fun _ _ _ => rfl, fun _ _ => rfl, fun A B _ _ => by rw [if_neg (by omega)]⟩ 5 (fun i X hi5 hX => ?_)
    rw [show 0 + (i : Int) = (i : Int) by omega, ho i X hi5]
    have h2 : (fun (n : Nat) (Y : zS2) => (∀ k q : Nat, k ≠ 3 → Y k q = S k q) ∧ (∀ q : Nat, ¬ (25 * g ≤ q ∧ q < 25 * g + 25) → Y 3 q = S 3 q) ∧ ∀ A B : Nat, A < 5 → B < 5 → Y 3 (25 * g + 5 * A + B) = if (A < i ∧ A + B ≤ 4) ∨ (A = i ∧ B < n) then v A B % p else S 3 (25 * g + 5 * A + B)) (5 - i) (zfor (si i) 0 X (5 - i)) := by
      refine zfor_ix (I := fun (n : Nat) (Y : zS2) => (∀ k q : Nat, k ≠ 3 → Y k q = S k q) ∧ (∀ q : Nat, ¬ (25 * g ≤ q ∧ q < 25 * g + 25) → Y 3 q = S 3 q) ∧ ∀ A B : Nat, A < 5 → B < 5 → Y 3 (25 * g + 5 * A + B) = if (A < i ∧ A + B ≤ 4) ∨ (A = i ∧ B < n) then v A B % p else S 3 (25 * g + 5 * A + B)) ⟨hX.1, hX.2.1, fun A B hA hB => ?_⟩ (5 - i) (fun j Y hj hY => ?_)
      · rw [hX.2.2 A B hA hB]
        by_cases q : A < i ∧ A + B ≤ 4
        · rw [if_pos q, if_pos (by omega)]
        · rw [if_neg q, if_neg (by omega)]
      · rw [show 0 + (j : Int) = (j : Int) by omega, hi i j Y (by omega) (by rw [hY.1 0 10 (by decide), hS]) hY.1]
        refine ⟨fun k q hk => by rw [za_ne (by omega)]; exact hY.1 k q hk, fun q hq => by rw [za_ne (by omega)]; exact hY.2.1 q hq, fun A B hA hB => ?_⟩
        by_cases e : A = i ∧ B = j
        · rw [e.1, e.2, za_same, if_pos (by omega)]
        · rw [za_ne (by omega), hY.2.2 A B hA hB]
          by_cases q : (A < i ∧ A + B ≤ 4) ∨ (A = i ∧ B < j)
          · rw [if_pos q, if_pos (by omega)]
          · rw [if_neg q, if_neg (by omega)]
    refine ⟨h2.1, h2.2.1, fun A B hA hB => ?_⟩
    rw [h2.2.2 A B hA hB]
    by_cases q : (A < i ∧ A + B ≤ 4) ∨ (A = i ∧ B < 5 - i)
    · rw [if_pos q, if_pos (by omega)]
    · rw [if_neg q, if_neg (by omega)]
  refine ⟨h.1, h.2.1, fun A B hA hB => ?_⟩
  rw [h.2.2 A B hA hB]
  by_cases q : A + B ≤ 4
  · rw [if_pos q, if_pos (by omega)]
  · rw [if_neg q, if_neg (by omega)]
end ZPc
