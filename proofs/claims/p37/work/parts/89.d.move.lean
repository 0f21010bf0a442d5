section ZQd
theorem zq_flt {K : Type} [Lean.Grind.CommRing K] {φ : Int → K} {c : Nat → Int} : ∀ i j, 4 < i + j → zq φ c i j = 0 := fun i j h => zq_f (by omega)
theorem zq_lt5 {K : Type} [Lean.Grind.CommRing K] {φ : Int → K} (c : Nat → Int) : kc_lt 5 (zq φ c) := fun i j h => zq_f (by omega)
theorem zq_ext {K : Type} [Lean.Grind.CommRing K] {p : Int} {φ : Int → K} (h : zKp K p φ) {c d : Nat → Int} (hc : zcan p c) (hd : ∀ i j : Nat, i + j ≤ 4 → 0 ≤ d (5 * i + j) ∧ d (5 * i + j) < p) (e : zq φ c = zq φ d) {i j : Nat} (hij : i + j ≤ 4) : c (5 * i + j) = d (5 * i + j) := by
  have := congrFun (congrFun e i) j
  rw [zq_t hij, zq_t hij] at this
  exact h.ij (hc _) (hd i j hij) this
/-- the product, where the DEGREE allows it -/
theorem zq_prod {K : Type} [Lean.Grind.CommRing K] {p : Int} {φ : Int → K} (h : zKp K p φ) (a b : Nat → Int) (h4 : ∀ i j, 4 < i + j → kc_mul (zq φ a) (zq φ b) i j = 0) : zq φ (zprod a b p) = kc_mul (zq φ a) (zq φ b) := funext fun i => funext fun j => by
  by_cases q : i + j ≤ 4
  · rw [zq_t q, zK_prod h a b q]
  · rw [zq_f q, h4 i j (by omega)]
theorem zq_one {K : Type} [Lean.Grind.CommRing K] {p : Int} {φ : Int → K} (h : zKp K p φ) (n : Int) : zq φ (zone n) = kc_t (φ n) 0 0 := funext fun i => funext fun j => by
  unfold kc_t
  by_cases q : i + j ≤ 4
  · rw [zq_t q]
    unfold zone
    by_cases e : i = 0 ∧ j = 0
    · rw [if_pos (by omega), if_pos e]
    · rw [if_neg (by omega), if_neg e, h.z]
  · rw [zq_f q, if_neg (by omega)]
theorem zq_pws {K : Type} [Lean.Grind.CommRing K] {p : Int} {φ : Int → K} (h : zKp K p φ) {d : Nat → Int} (hd : ∀ i j, 1 < i + j → zq φ d i j = 0) : ∀ k : Nat, k ≤ 4 → zq φ (zpws d p k) = kc_pw (zq φ d) k
  | 0, _ => by
    show zq φ (zone 1) = kc_t 1 0 0
    rw [zq_one h, h.o]
  | k + 1, hk => by
    show zq φ (zprod (zpws d p k) d p) = kc_mul (kc_pw (zq φ d) k) (zq φ d)
    have ih := zq_pws h hd k (by omega)
    rw [zq_prod h _ _ (fun i j hij => by
      rw [ih]
      exact kc_zero (n := k) (m := 1) (fun i j q => kc_pw_dg hd k i j (by omega)) hd i j (by omega)), ih]
theorem zq_mv {K : Type} [Lean.Grind.CommRing K] {p : Int} {φ : Int → K} (h : zKp K p φ) {c nx ny : Nat → Int} (hx : ∀ i j, 1 < i + j → zq φ nx i j = 0) (hy : ∀ i j, 1 < i + j → zq φ ny i j = 0) : zq φ (zmv c (zpws nx p) (zpws ny p) p) = kc_sb (zq φ nx) (zq φ ny) (zq φ c) 5 := funext fun A => funext fun B => by
  have dgz : ∀ i j : Nat, i + j ≤ 4 → ∀ A B, i + j < A + B → kc_mul (kc_pw (zq φ nx) i) (kc_pw (zq φ ny) j) A B = 0 := fun i j hij A B hAB => kc_zero (n := i) (m := j) (fun a b q => kc_pw_dg hx i a b (by omega)) (fun a b q => kc_pw_dg hy j a b (by omega)) A B hAB
  by_cases q : A + B ≤ 4
  · rw [zq_t q]
    unfold zmv
    rw [show (5 - 0 : Int).toNat = 5 from rfl]
    rw [zK_acc (fun r : Nat → Int => φ (r (5 * A + B))) (F := fun i => ka_s (fun j => zq φ c i j * kc_mul (kc_pw (zq φ nx) i) (kc_pw (zq φ ny) j) A B) (4 - i + 1)) 5 (fun i r hi => ?_), zz0k, h.z]
    · unfold kc_sb
      have e : ka_s (fun i => ka_s (fun j => zq φ c i j * kc_mul (kc_pw (zq φ nx) i) (kc_pw (zq φ ny) j) A B) (4 - i + 1)) 5 = ka_s (fun i => ka_s (fun j => zq φ c i j * kc_mul (kc_pw (zq φ nx) i) (kc_pw (zq φ ny) j) A B) 5) 5 := ka_s_congr _ (fun i hi => by
        rw [ka_s_ext (m := 4 - i + 1) 5 (by omega) (fun j h1 h2 => by rw [zq_f (c := c) (by omega)]; grind)])
      rw [e]; grind
    unfold zmvO
    rw [show 0 + (i : Int) = (i : Int) by omega, show (4 - (i : Int) + 1 - 0).toNat = 4 - i + 1 by omega]
    refine zK_acc (fun r : Nat → Int => φ (r (5 * A + B))) (4 - i + 1) (fun j r hj => ?_)
    unfold zmvI
    rw [show 0 + (j : Int) = (j : Int) by omega, Int.toNat_natCast, Int.toNat_natCast, zatN (by omega)]
    have k := zK_addS h r (zprod (zpws nx p i) (zpws ny p j) p) 0 0 (c (5 * i + j)) q
    rw [if_pos ⟨Nat.zero_le _, Nat.zero_le _⟩, Nat.sub_zero, Nat.sub_zero] at k
    have e1 := zq_pws h hx i (by omega)
    have e2 := zq_pws h hy j (by omega)
    have k2 := zK_prod h (zpws nx p i) (zpws ny p j) q
    rw [e1, e2] at k2
    rw [k2] at k
    rw [zq_t (c := c) (by omega)]
    exact k
  · rw [zq_f q]
    unfold kc_sb
    refine (ka_s_zero _ (fun i hi => ka_s_zero _ (fun j hj => ?_))).symm
    by_cases q2 : i + j ≤ 4
    · rw [dgz i j q2 A B (by omega)]; grind
    · rw [zq_f (c := c) q2]; grind
theorem zmv_fl (c : Nat → Int) (X Y : Nat → Nat → Int) (p : Int) : zflt (zmv c X Y p) := fun A B hA hB hAB => by
  unfold zmv
  refine zfor_ix (I := fun _ (x : Nat → Int) => x (5 * A + B) = 0) (zz0k _) _ (fun i x hi hx => ?_)
  unfold zmvO
  refine zfor_ix (I := fun _ (x : Nat → Int) => x (5 * A + B) = 0) hx _ (fun j y hj hy => ?_)
  unfold zmvI
  have e := zaddS_out4 (c := y) (d := zprod (X (0 + (i : Int)).toNat) (Y (0 + (j : Int)).toNat) p) (r := 0) (u := 0) (o := zat c (0 + (i : Int)) (0 + (j : Int))) (p := p) hA hB hAB
  exact e.trans hy
/-- a grid of the model -/
def zG (X : zS2) (g : Nat) : Nat → Int := fun k => X 3 (25 * g + k)
theorem zG_at (X : zS2) (g i j : Nat) : X 3 (25 * g + 5 * i + j) = zG X g (5 * i + j) := by
  unfold zG
  rw [Nat.add_assoc]
/-- numbers laid into all of a grid -/
theorem zm_sqf {S : zS2} {p : Int} {g : Nat} {v : Nat → Nat → Int} {so : Int → zS2 → zS2} {si : Int → Int → zS2 → zS2} (hS : S 0 10 = p) (ho : ∀ (i : Nat) (X : zS2), i < 5 → so i X = zfor (si i) 0 X 5) (hi : ∀ (i j : Nat) (X : zS2), i < 5 → j < 5 → X 0 10 = p → (∀ k q : Nat, k ≠ 3 → X k q = S k q) → (∀ q : Nat, ¬ (25 * g ≤ q ∧ q < 25 * g + 25) → X 3 q = S 3 q) → X 3 (25 * g + 5 * i + j) = S 3 (25 * g + 5 * i + j) → si i j X = za X 3 (25 * g + 5 * i + j) (v i j % p)) : (∀ k q : Nat, k ≠ 3 → (zfor so 0 S 5) k q = S k q) ∧ (∀ q : Nat, ¬ (25 * g ≤ q ∧ q < 25 * g + 25) → (zfor so 0 S 5) 3 q = S 3 q) ∧ ∀ A B : Nat, A < 5 → B < 5 → (zfor so 0 S 5) 3 (25 * g + 5 * A + B) = v A B % p := by
  have h : (fun (n : Nat) (X : zS2) => (∀ k q : Nat, k ≠ 3 → X k q = S k q) ∧ (∀ q : Nat, ¬ (25 * g ≤ q ∧ q < 25 * g + 25) → X 3 q = S 3 q) ∧ ∀ A B : Nat, A < 5 → B < 5 → X 3 (25 * g + 5 * A + B) = if A < n then v A B % p else S 3 (25 * g + 5 * A + B)) 5 (zfor so 0 S 5) := by
    refine zfor_ix (I := fun (n : Nat) (X : zS2) => (∀ k q : Nat, k ≠ 3 → X k q = S k q) ∧ (∀ q : Nat, ¬ (25 * g ≤ q ∧ q < 25 * g + 25) → X 3 q = S 3 q) ∧ ∀ A B : Nat, A < 5 → B < 5 → X 3 (25 * g + 5 * A + B) = if A < n then v A B % p else S 3 (25 * g + 5 * A + B)) ⟨fun _ _ _ => rfl, fun _ _ => rfl, fun A B _ _ => by rw [if_neg (by omega)]⟩ 5 (fun i X hi5 hX => ?_)
    rw [show 0 + (i : Int) = (i : Int) by omega, ho i X hi5]
    have h2 : (fun (n : Nat) (Y : zS2) => (∀ k q : Nat, k ≠ 3 → Y k q = S k q) ∧ (∀ q : Nat, ¬ (25 * g ≤ q ∧ q < 25 * g + 25) → Y 3 q = S 3 q) ∧ ∀ A B : Nat, A < 5 → B < 5 → Y 3 (25 * g + 5 * A + B) = if A < i ∨ (A = i ∧ B < n) then v A B % p else S 3 (25 * g + 5 * A + B)) 5 (zfor (si i) 0 X 5) := by
      refine zfor_ix (I := fun (n : Nat) (Y : zS2) => (∀ k q : Nat, k ≠ 3 → Y k q = S k q) ∧ (∀ q : Nat, ¬ (25 * g ≤ q ∧ q < 25 * g + 25) → Y 3 q = S 3 q) ∧ ∀ A B : Nat, A < 5 → B < 5 → Y 3 (25 * g + 5 * A + B) = if A < i ∨ (A = i ∧ B < n) then v A B % p else S 3 (25 * g + 5 * A + B)) ⟨hX.1, hX.2.1, fun A B hA hB => ?_⟩ 5 (fun j Y hj hY => ?_)
      · rw [hX.2.2 A B hA hB]
        by_cases q : A < i
        · rw [if_pos q, if_pos (by omega)]
        · rw [if_neg q, if_neg (by omega)]
      · have e0 := hY.2.2 i j hi5 hj
        rw [if_neg (by omega)] at e0
        rw [show 0 + (j : Int) = (j : Int) by omega, hi i j Y hi5 hj (by rw [hY.1 0 10 (by decide), hS]) hY.1 hY.2.1 e0]
        refine ⟨fun k q hk => by rw [za_ne (by omega)]; exact hY.1 k q hk, fun q hq => by rw [za_ne (by omega)]; exact hY.2.1 q hq, fun A B hA hB => ?_⟩
        by_cases e : A = i ∧ B = j
        · rw [e.1, e.2, za_same, if_pos (by omega)]
        · rw [za_ne (by omega), hY.2.2 A B hA hB]
          by_cases q : A < i ∨ (A = i ∧ B < j)
          · rw [if_pos q, if_pos (by omega)]
          · rw [if_neg q, if_neg (by omega)]
    refine ⟨h2.1, h2.2.1, fun A B hA hB => ?_⟩
    rw [h2.2.2 A B hA hB]
    by_cases q : A < i ∨ (A = i ∧ B < 5)
    · rw [if_pos q, if_pos (by omega)]
    · rw [if_neg q, if_neg (by omega)]
  refine ⟨h.1, h.2.1, fun A B hA hB => ?_⟩
  rw [h.2.2 A B hA hB, if_pos hA]
theorem zlin3_sp (x y one : Int) (q : Nat) : zlin3 x y one q = if q = 1 then y else (if q = 5 then x else (if q = 0 then one else 0)) := by
  unfold zlin3
  rw [zput_t (by unfold zfits; omega), zput_t (by unfold zfits; omega)]
  rfl
end ZQd
