section ZPa
/-- the POLYNOMIAL that a grid holds -/
def zq {K : Type} [Lean.Grind.CommRing K] (φ : Int → K) (c : Nat → Int) : Nat → Nat → K := fun i j => if i + j ≤ 4 then φ (c (5 * i + j)) else 0
theorem zq_t {K : Type} [Lean.Grind.CommRing K] {φ : Int → K} {c : Nat → Int} {i j : Nat} (h : i + j ≤ 4) : zq φ c i j = φ (c (5 * i + j)) := if_pos h
theorem zq_f {K : Type} [Lean.Grind.CommRing K] {φ : Int → K} {c : Nat → Int} {i j : Nat} (h : ¬ i + j ≤ 4) : zq φ c i j = 0 := if_neg h
/-- sums of two letters that meet at one place -/
theorem ka_s_at {K : Type} [Lean.Grind.CommRing K] {A B : Nat} {r u : Nat} (G : Nat → Nat → K) (n : Nat) (m : Nat → Nat) (hm : ∀ i, i < n → i + r = A → u ≤ B → B - u < m i) : ka_s (fun i => ka_s (fun j => if i + r = A ∧ j + u = B then G i j else 0) (m i)) n = if r ≤ A ∧ u ≤ B ∧ A - r < n then G (A - r) (B - u) else 0 := by
  by_cases h : r ≤ A ∧ u ≤ B ∧ A - r < n
  · rw [if_pos h, ka_s_one (k := A - r) n h.2.2 (fun i hi hne => ka_s_zero _ (fun j hj => by rw [if_neg (by omega)])), ka_s_one (k := B - u) (m (A - r)) (hm _ h.2.2 (by omega) h.2.1) (fun j hj hne => by rw [if_neg (by omega)]), if_pos (by omega)]
  · rw [if_neg h]
    exact ka_s_zero _ (fun i hi => ka_s_zero _ (fun j hj => by rw [if_neg (by omega)]))
theorem zK_addS {K : Type} [Lean.Grind.CommRing K] {p : Int} {φ : Int → K} (h : zKp K p φ) (c d : Nat → Int) (r u : Nat) (o : Int) {A B : Nat} (hAB : A + B ≤ 4) : φ (zaddS c d r u o p (5 * A + B)) = φ (c (5 * A + B)) + (if r ≤ A ∧ u ≤ B then φ o * φ (d (5 * (A - r) + (B - u))) else 0) := by
  unfold zaddS
  by_cases hru : r + u ≤ 4
  · rw [show (4 - (r : Int) - (u : Int) + 1 - 0).toNat = 4 - r - u + 1 by omega]
    rw [zK_acc (fun c : Nat → Int => φ (c (5 * A + B))) (F := fun i => ka_s (fun j => if i + r = A ∧ j + u = B then φ o * φ (d (5 * i + j)) else 0) (4 - r - u - i + 1)) (4 - r - u + 1) (fun i c hi => ?_)]
    · rw [ka_s_at (fun i j => φ o * φ (d (5 * i + j))) (4 - r - u + 1) (fun i => 4 - r - u - i + 1) (fun i _ _ _ => by omega)]
      by_cases q : r ≤ A ∧ u ≤ B
      · rw [if_pos q, if_pos (by omega)]
      · rw [if_neg q, if_neg (by omega)]
    unfold zaddS_out
    rw [show 0 + (i : Int) = (i : Int) by omega, show (4 - (r : Int) - (u : Int) - (i : Int) + 1 - 0).toNat = 4 - r - u - i + 1 by omega]
    refine zK_acc (fun c : Nat → Int => φ (c (5 * A + B))) (4 - r - u - i + 1) (fun j c hj => ?_)
    unfold zaddS_in
    rw [show 0 + (j : Int) = (j : Int) by omega, show ((i : Int) * 5 + (j : Int)).toNat = 5 * i + j by omega, show (((i : Int) + (r : Int)) * 5 + (j : Int) + (u : Int)).toNat = 5 * (i + r) + (j + u) by omega]
    by_cases e : d (5 * i + j) ≠ 0
    · rw [if_pos e]
      unfold zup
      by_cases q : i + r = A ∧ j + u = B
      · rw [if_pos (by omega), if_pos q, h.em, h.ad, h.ml, q.1, q.2]
      · rw [if_neg (by omega), if_neg q]; grind
    · rw [if_neg e, Classical.byContradiction e, h.z]
      split <;> grind
  · rw [show (4 - (r : Int) - (u : Int) + 1 - 0).toNat = 0 by omega, if_neg (by omega)]
    show φ (c (5 * A + B)) = φ (c (5 * A + B)) + 0
    grind
theorem zaddS_out4 {c d : Nat → Int} {r u : Nat} {o p : Int} {A B : Nat} (hA : A < 5) (hB : B < 5) (hAB : 4 < A + B) : zaddS c d r u o p (5 * A + B) = c (5 * A + B) := by
  unfold zaddS
  refine zfor_ix (I := fun _ (x : Nat → Int) => x (5 * A + B) = c (5 * A + B)) rfl _ (fun i x hi hx => ?_)
  unfold zaddS_out
  refine zfor_ix (I := fun _ (x : Nat → Int) => x (5 * A + B) = c (5 * A + B)) hx _ (fun j y hj hy => ?_)
  unfold zaddS_in
  split
  · unfold zup
    rw [if_neg (by omega)]; exact hy
  · exact hy
theorem zK_prod {K : Type} [Lean.Grind.CommRing K] {p : Int} {φ : Int → K} (h : zKp K p φ) (a b : Nat → Int) {A B : Nat} (hAB : A + B ≤ 4) : φ (zprod a b p (5 * A + B)) = kc_mul (zq φ a) (zq φ b) A B := by
  unfold zprod
  rw [show (4 + 1 - 0 : Int).toNat = 5 from rfl]
  rw [zK_acc (fun c : Nat → Int => φ (c (5 * A + B))) (F := fun i => ka_s (fun j => if i ≤ A ∧ j ≤ B then zq φ a i j * zq φ b (A - i) (B - j) else 0) (4 - i + 1)) 5 (fun i c hi => ?_), zz0k, h.z]
  · unfold kc_mul
    rw [ka_s_ext (m := A + 1) 5 (by omega) (fun i h1 h2 => ka_s_zero _ (fun j hj => by rw [if_neg (by omega)]))]
    have e : ka_s (fun i => ka_s (fun j => if i ≤ A ∧ j ≤ B then zq φ a i j * zq φ b (A - i) (B - j) else 0) (4 - i + 1)) (A + 1) = ka_s (fun i => ka_s (fun j => zq φ a i j * zq φ b (A - i) (B - j)) (B + 1)) (A + 1) := ka_s_congr _ (fun i hi => by
      rw [ka_s_ext (m := B + 1) (4 - i + 1) (by omega) (fun j h1 h2 => by rw [if_neg (by omega)])]
      exact ka_s_congr _ (fun j hj => by rw [if_pos (by omega)]))
    rw [e]; grind
  unfold zprod_out
  rw [show 0 + (i : Int) = (i : Int) by omega, show (4 - (i : Int) + 1 - 0).toNat = 4 - i + 1 by omega]
  refine zK_acc (fun c : Nat → Int => φ (c (5 * A + B))) (4 - i + 1) (fun j c hj => ?_)
  unfold zprod_in
  rw [show 0 + (j : Int) = (j : Int) by omega, show ((i : Int) * 5 + (j : Int)).toNat = 5 * i + j by omega]
  by_cases e : a (5 * i + j) ≠ 0
  · rw [if_pos e, zK_addS h _ _ _ _ _ hAB]
    by_cases q : i ≤ A ∧ j ≤ B
    · rw [if_pos q, if_pos q, zq_t (by omega), zq_t (by omega)]
    · rw [if_neg q, if_neg q]
  · rw [if_neg e, zq_t (by omega), Classical.byContradiction e, h.z]
    split <;> grind
theorem zprod_fl (a b : Nat → Int) (p : Int) : zflt (zprod a b p) := fun A B hA hB hAB => by
  unfold zprod
  refine zfor_ix (I := fun _ (x : Nat → Int) => x (5 * A + B) = 0) (zz0k _) _ (fun i x hi hx => ?_)
  unfold zprod_out
  refine zfor_ix (I := fun _ (x : Nat → Int) => x (5 * A + B) = 0) hx _ (fun j y hj hy => ?_)
  unfold zprod_in
  split
  · have e := zaddS_out4 (c := y) (d := b) (r := i) (u := j) (o := a ((0 + (i : Int)) * 5 + (0 + (j : Int))).toNat) (p := p) hA hB hAB
    rw [show 0 + (i : Int) = (i : Int) by omega, show 0 + (j : Int) = (j : Int) by omega] at *
    rw [e]; exact hy
  · exact hy
end ZPa
section ZPb
theorem kc_zero {K : Type} [Lean.Grind.CommRing K] {f g : Nat → Nat → K} {n m : Nat} (hf : ∀ i j, n < i + j → f i j = 0) (hg : ∀ i j, m < i + j → g i j = 0) : ∀ i j, n + m < i + j → kc_mul f g i j = 0 := fun i j hij => ka_s_zero _ (fun a ha => ka_s_zero _ (fun b hb => by
  by_cases q : n < a + b
  · rw [hf a b q]; grind
  · rw [hg (i - a) (j - b) (by omega)]; grind))
/-- DEGREES add -/
theorem kc_exact {K : Type} [Lean.Grind.CommRing K] (hK : ka_F K) {f g : Nat → Nat → K} {n m : Nat} (hf : ∀ i j, n < i + j → f i j = 0) (hg : ∀ i j, m < i + j → g i j = 0) (hf1 : ∃ i j, i + j = n ∧ f i j ≠ 0) (hg1 : ∃ i j, i + j = m ∧ g i j ≠ 0) : ∃ i j, i + j = n + m ∧ kc_mul f g i j ≠ 0 := by
  obtain ⟨a0, b0, h1, h2⟩ := hf1
  obtain ⟨c0, d0, h3, h4⟩ := hg1
  obtain ⟨a, ⟨ha, ha2⟩, ham⟩ := ka_min (P := fun a => a ≤ n ∧ f a (n - a) ≠ 0) a0 ⟨by omega, by rw [show n - a0 = b0 by omega]; exact h2⟩
  obtain ⟨c, ⟨hc, hc2⟩, hcm⟩ := ka_min (P := fun c => c ≤ m ∧ g c (m - c) ≠ 0) c0 ⟨by omega, by rw [show m - c0 = d0 by omega]; exact h4⟩
  refine ⟨a + c, (n - a) + (m - c), by omega, fun e => ?_⟩
  unfold kc_mul at e
  have fz : ∀ x y : Nat, x + y = n → x < a → f x y = 0 := fun x y hxy hx => by
    have := ham x hx
    refine Classical.byContradiction fun z => this ⟨by omega, ?_⟩
    rw [show n - x = y by omega]; exact z
  have gz : ∀ x y : Nat, x + y = m → x < c → g x y = 0 := fun x y hxy hx => by
    have := hcm x hx
    refine Classical.byContradiction fun z => this ⟨by omega, ?_⟩
    rw [show m - x = y by omega]; exact z
  have tz : ∀ x y : Nat, x ≤ a + c → y ≤ (n - a) + (m - c) → ¬ (x = a ∧ y = n - a) → f x y * g (a + c - x) ((n - a) + (m - c) - y) = 0 := fun x y hx hy hne => by
    by_cases q : n < x + y
    · rw [hf x y q]; grind
    · by_cases q2 : x + y < n
      · rw [hg _ _ (by omega)]; grind
      · by_cases q3 : x < a
        · rw [fz x y (by omega) q3]; grind
        · rw [gz (a + c - x) _ (by omega) (by omega)]; grind
  rw [ka_s_one (k := a) (a + c + 1) (by omega) (fun x hx hne => ka_s_zero _ (fun y hy => tz x y (by omega) (by omega) (fun z => hne z.1))), ka_s_one (k := n - a) ((n - a) + (m - c) + 1) (by omega) (fun y hy hne => tz a y (by omega) (by omega) (fun z => hne z.2)), show a + c - a = c by omega, show (n - a) + (m - c) - (n - a) = m - c by omega] at e
  rcases hK.dom _ _ e with z | z
  · exact ha2 z
  · exact hc2 z
theorem kc_mul_x {K : Type} [Lean.Grind.CommRing K] (f g : Nat → Nat → K) {A B N M : Nat} (hN : A < N) (hM : B < M) : kc_mul f g A B = ka_s (fun i => ka_s (fun j => if i ≤ A ∧ j ≤ B then f i j * g (A - i) (B - j) else 0) M) N := by
  unfold kc_mul
  rw [ka_s_ext (m := A + 1) N (by omega) (fun i h1 h2 => ka_s_zero _ (fun j hj => by rw [if_neg (by omega)]))]
  refine ka_s_congr _ (fun i hi => ?_)
  rw [ka_s_ext (m := B + 1) M (by omega) (fun j h1 h2 => by rw [if_neg (by omega)])]
  exact ka_s_congr _ (fun j hj => by rw [if_pos (by omega)])
/-- the grid of a model's product -/
def zwdd {K : Type} [Lean.Grind.CommRing K] (φ : Int → K) (U : zS2) (A B : Nat) : K := φ (U 4 (9 * A + B))
theorem zm_wide {K : Type} [Lean.Grind.CommRing K] {p : Int} {φ : Int → K} (h : zKp K p φ) {S : zS2} {a b : Nat} {ca cb : Nat → Int} (ha : ∀ i j : Nat, i + j ≤ 4 → S 3 (25 * a + 5 * i + j) = ca (5 * i + j)) (hb : ∀ i j : Nat, i + j ≤ 4 → S 3 (25 * b + 5 * i + j) = cb (5 * i + j)) : (∀ k i : Nat, k ≠ 4 → (zfor (zm_multiplies_L27 a b) 0 (zfor zm_multiplies_L3 0 S 81) 5) k i = S k i) ∧ ∀ A B : Nat, A < 9 → B < 9 → zwdd φ (zfor (zm_multiplies_L27 a b) 0 (zfor zm_multiplies_L3 0 S 81) 5) A B = kc_mul (zq φ ca) (zq φ cb) A B := by
  have z0 : ∀ k i : Nat, (zfor zm_multiplies_L3 0 S 81) k i = if k = 4 ∧ 0 ≤ i ∧ i < 0 + 81 then 0 else S k i := zfor_fill (g := fun _ => 0) 81 (fun k x hk hx => by
    show za x 4 ((0 + (k : Int)).toNat) 0 = _
    rw [show (0 + (k : Int)).toNat = 0 + k by omega])
  obtain ⟨T, hT⟩ : ∃ T, T = zfor zm_multiplies_L3 0 S 81 := ⟨_, rfl⟩
  rw [← hT] at z0 ⊢
  have tk : ∀ k i : Nat, k ≠ 4 → T k i = S k i := fun k i hk => by rw [z0, if_neg (by omega)]
  -- one place, and the frame
  have go : ∀ A B : Nat, A < 9 → B < 9 → (∀ k i : Nat, k ≠ 4 → (zfor (zm_multiplies_L27 a b) 0 T 5) k i = S k i) ∧ zwdd φ (zfor (zm_multiplies_L27 a b) 0 T 5) A B = zwdd φ T A B + ka_s (fun i => ka_s (fun j => if i ≤ A ∧ j ≤ B then zq φ ca i j * zq φ cb (A - i) (B - j) else 0) (4 - i + 1)) 5 := by
    intro A B hA hB
    refine zK_accI (fun U : zS2 => zwdd φ U A B) (fun U : zS2 => ∀ k i : Nat, k ≠ 4 → U k i = S k i) tk 5 (fun i U hi hU => ?_)
    rw [show 0 + (i : Int) = (i : Int) by omega]
    show (∀ k q : Nat, k ≠ 4 → (zfor (zm_multiplies_L36 a b i) 0 U ((4 - (i : Int)) + 1 - 0).toNat) k q = S k q) ∧ zwdd φ (zfor (zm_multiplies_L36 a b i) 0 U ((4 - (i : Int)) + 1 - 0).toNat) A B = _
    rw [show ((4 - (i : Int)) + 1 - 0).toNat = 4 - i + 1 by omega]
    refine zK_accI (fun U : zS2 => zwdd φ U A B) (fun U : zS2 => ∀ k i : Nat, k ≠ 4 → U k i = S k i) hU (4 - i + 1) (fun j V hj hV => ?_)
    rw [show 0 + (j : Int) = (j : Int) by omega]
    have cell : ∀ (W : zS2), (∀ k i : Nat, k ≠ 4 → W k i = S k i) → zm_cell W a i j = ca (5 * i + j) := fun W hW => by
      rw [zM_cell, hW _ _ (by decide), ha i j (by omega)]
    by_cases e : ca (5 * i + j) = 0
    · have e1 : zm_multiplies_L36 a b i j V = V := by
        show (if zm_cell V a i j = 0 then V else _) = V
        rw [cell V hV, if_pos e]
      rw [e1, zq_t (c := ca) (by omega), e, h.z]
      exact ⟨hV, by split <;> grind⟩
    · have e1 : zm_multiplies_L36 a b i j V = zfor (zm_multiplies_L63 a b i j) 0 V 5 := by
        show (if zm_cell V a i j = 0 then V else _) = _
        rw [cell V hV, if_neg e]
        rfl
      rw [e1]
      obtain ⟨r1, r2⟩ := zK_accI (fun U : zS2 => zwdd φ U A B) (fun U : zS2 => ∀ k i : Nat, k ≠ 4 → U k i = S k i) (step := zm_multiplies_L63 a b i j) (a := 0) (F := fun m => ka_s (fun n => if m + i = A ∧ n + j = B then zq φ ca i j * zq φ cb m n else 0) (4 - m + 1)) hV 5 (fun m W hm hW => by
        rw [show 0 + (m : Int) = (m : Int) by omega]
        show (∀ k q : Nat, k ≠ 4 → (zfor (zm_multiplies_L72 a b i j m) 0 W ((4 - (m : Int)) + 1 - 0).toNat) k q = S k q) ∧ zwdd φ (zfor (zm_multiplies_L72 a b i j m) 0 W ((4 - (m : Int)) + 1 - 0).toNat) A B = _
        rw [show ((4 - (m : Int)) + 1 - 0).toNat = 4 - m + 1 by omega]
        refine zK_accI (fun U : zS2 => zwdd φ U A B) (fun U : zS2 => ∀ k i : Nat, k ≠ 4 → U k i = S k i) hW (4 - m + 1) (fun n X hn hX => ?_)
        rw [show 0 + (n : Int) = (n : Int) by omega]
        have es : zm_multiplies_L72 a b i j m n X = za X 4 (9 * (i + m) + (j + n)) (X 4 (9 * (i + m) + (j + n)) + ca (5 * i + j) * cb (5 * m + n)) := by
          show za X 4 ((((9 * ((i : Int) + (m : Int))) + (j : Int)) + (n : Int)).toNat) ((X 4 ((((9 * ((i : Int) + (m : Int))) + (j : Int)) + (n : Int)).toNat)) + (zm_cell X a i j * zm_cell X b m n)) = _
          rw [show (((9 * ((i : Int) + (m : Int))) + (j : Int)) + (n : Int)).toNat = 9 * (i + m) + (j + n) by omega, cell X hX, zM_cell, hX 3 (25 * b + 5 * m + n) (by decide), hb m n (by omega)]
        rw [es]
        refine ⟨fun k q hk => by rw [za_ne (by omega)]; exact hX k q hk, ?_⟩
        unfold zwdd
        by_cases q : m + i = A ∧ n + j = B
        · rw [show 9 * A + B = 9 * (i + m) + (j + n) by omega, za_same, if_pos q, h.ad, h.ml, zq_t (by omega), zq_t (by omega)]
        · rw [za_ne (by omega), if_neg q]; grind)
      refine ⟨r1, ?_⟩
      have e9 : ka_s (fun m => ka_s (fun n => if m + i = A ∧ n + j = B then zq φ ca i j * zq φ cb m n else 0) (4 - m + 1)) 5 = ka_s (fun m => ka_s (fun n => if m + i = A ∧ n + j = B then zq φ ca i j * zq φ cb m n else 0) 9) 5 := ka_s_congr _ (fun m hm => by
        rw [ka_s_ext (m := 4 - m + 1) 9 (by omega) (fun n h1 h2 => by
          rw [zq_f (c := cb) (by omega)]
          split <;> grind)])
      rw [r2, e9, ka_s_at (fun m n => zq φ ca i j * zq φ cb m n) 5 (fun m => 9) (fun m _ _ _ => by omega)]
      by_cases q : i ≤ A ∧ j ≤ B
      · rw [if_pos q]
        by_cases q2 : A - i < 5
        · rw [if_pos ⟨q.1, q.2, q2⟩]
        · rw [if_neg (by omega), zq_f (c := cb) (by omega)]; grind
      · rw [if_neg q, if_neg (by omega)]
  refine ⟨(go 0 0 (by omega) (by omega)).1, fun A B hA hB => ?_⟩
  rw [(go A B hA hB).2, kc_mul_x _ _ (N := 9) (M := 9) hA hB]
  have t0 : zwdd φ T A B = 0 := by
    unfold zwdd
    rw [z0, if_pos (by omega), h.z]
  rw [t0, ka_s_ext (m := 5) 9 (by omega) (fun i h1 h2 => ka_s_zero _ (fun j hj => by
    rw [zq_f (c := ca) (by omega)]
    split <;> grind))]
  have e : ka_s (fun i => ka_s (fun j => if i ≤ A ∧ j ≤ B then zq φ ca i j * zq φ cb (A - i) (B - j) else 0) (4 - i + 1)) 5 = ka_s (fun i => ka_s (fun j => if i ≤ A ∧ j ≤ B then zq φ ca i j * zq φ cb (A - i) (B - j) else 0) 9) 5 := ka_s_congr _ (fun i hi => by
    rw [ka_s_ext (m := 4 - i + 1) 9 (by omega) (fun j h1 h2 => by
      rw [zq_f (c := ca) (by omega)]
      split <;> grind)])
  rw [e]; grind
end ZPb
section ZPc
theorem zm_W161 (T : zS2) (i : Nat) : ∀ (fu j : Nat), 9 < fu + j → j ≤ 9 → (zm_multiplies_W161 T i fu j = .inl (0, T) ∧ ∃ b : Nat, b < 9 ∧ 4 < i + b ∧ Int.tmod (T 4 (9 * i + b)) (T 0 10) ≠ 0) ∨ (zm_multiplies_W161 T i fu j = .inr 9 ∧ ∀ b : Nat, j ≤ b → b < 9 → 4 < i + b → Int.tmod (T 4 (9 * i + b)) (T 0 10) = 0)
  | 0, j, h1, h2 => by omega
  | fu + 1, j, h1, h2 => by
    have e : zm_multiplies_W161 T i (fu + 1) j = (if 9 ≤ (j : Int) then Sum.inr (j : Int) else (if (i : Int) + (j : Int) ≤ 4 then zm_multiplies_W161 T i fu ((j : Int) + 1) else (if Int.tmod (T 4 (((9 * (i : Int)) + (j : Int)).toNat)) (T 0 10) = 0 then zm_multiplies_W161 T i fu ((j : Int) + 1) else Sum.inl (0, T)))) := rfl
    rw [e]
    by_cases q : j = 9
    · rw [if_pos (by omega), q]
      exact Or.inr ⟨rfl, fun b a1 a2 => by omega⟩
    · rw [if_neg (by omega), show (j : Int) + 1 = ((j + 1 : Nat) : Int) by omega, show ((9 * (i : Int)) + (j : Int)).toNat = 9 * i + j by omega]
      by_cases q2 : (i : Int) + (j : Int) ≤ 4
      · rw [if_pos q2]
        rcases zm_W161 T i fu (j + 1) (by omega) (by omega) with z | ⟨z1, z2⟩
        · exact Or.inl z
        · exact Or.inr ⟨z1, fun b a1 a2 a3 => z2 b (by omega) a2 a3⟩
      · rw [if_neg q2]
        by_cases q3 : Int.tmod (T 4 (9 * i + j)) (T 0 10) = 0
        · rw [if_pos q3]
          rcases zm_W161 T i fu (j + 1) (by omega) (by omega) with z | ⟨z1, z2⟩
          · exact Or.inl z
          · refine Or.inr ⟨z1, fun b a1 a2 a3 => ?_⟩
            by_cases e2 : b = j
            · rw [e2]; exact q3
            · exact z2 b (by omega) a2 a3
        · rw [if_neg q3]
          exact Or.inl ⟨rfl, j, by omega, by omega, q3⟩
theorem zm_W151 (T : zS2) : ∀ (fu i : Nat), 9 < fu + i → i ≤ 9 → (zm_multiplies_W151 T fu i = .inl (0, T) ∧ ∃ a b : Nat, a < 9 ∧ b < 9 ∧ 4 < a + b ∧ Int.tmod (T 4 (9 * a + b)) (T 0 10) ≠ 0) ∨ (zm_multiplies_W151 T fu i = .inr 9 ∧ ∀ a b : Nat, i ≤ a → a < 9 → b < 9 → 4 < a + b → Int.tmod (T 4 (9 * a + b)) (T 0 10) = 0)
  | 0, i, h1, h2 => by omega
  | fu + 1, i, h1, h2 => by
    have e : zm_multiplies_W151 T (fu + 1) i = (if 9 ≤ (i : Int) then Sum.inr (i : Int) else zsum (zm_multiplies_W161 T i 10 0) (fun r161 => Sum.inl r161) (fun j161 => zm_multiplies_W151 T fu ((i : Int) + 1))) := rfl
    rw [e]
    by_cases q : i = 9
    · rw [if_pos (by omega), q]
      exact Or.inr ⟨rfl, fun a b a1 a2 => by omega⟩
    · rw [if_neg (by omega), show (i : Int) + 1 = ((i + 1 : Nat) : Int) by omega]
      rcases zm_W161 T i 10 0 (by omega) (by omega) with ⟨z1, b, b1, b2, b3⟩ | ⟨z1, z2⟩
      · have z1' : zm_multiplies_W161 T i 10 0 = .inl (0, T) := z1
        rw [z1']
        exact Or.inl ⟨rfl, i, b, by omega, b1, b2, b3⟩
      · have z1' : zm_multiplies_W161 T i 10 0 = .inr 9 := z1
        rw [z1']
        rcases zm_W151 T fu (i + 1) (by omega) (by omega) with y | ⟨y1, y2⟩
        · exact Or.inl y
        · refine Or.inr ⟨y1, fun a b a1 a2 a3 a4 => ?_⟩
          by_cases e2 : a = i
          · rw [e2]; exact z2 b (by omega) a3 (by omega)
          · exact y2 a b (by omega) a2 a3 a4
theorem zm_empties_sp (S : zS2) (g : Nat) : ∀ a i : Nat, (zm_empties S g) a i = if a = 3 ∧ 25 * g ≤ i ∧ i < 25 * g + 25 then 0 else S a i := by
  show ∀ a i : Nat, (zfor (zm_empties_L2 g) 0 S 25) a i = _
  exact zfor_fill (g := fun _ => 0) 25 (fun k x hk hx => by
    show za x 3 ((25 * (g : Int)) + (0 + (k : Int))).toNat 0 = _
    rw [show ((25 * (g : Int)) + (0 + (k : Int))).toNat = 25 * g + k by omega])
/-- numbers laid into a grid, TERM by TERM -/
theorem zm_trif {S : zS2} {p : Int} {g : Nat} {v : Nat → Nat → Int} {so : Int → zS2 → zS2} {si : Int → Int → zS2 → zS2} (hS : S 0 10 = p) (hp : 0 < p) (ho : ∀ (i : Nat) (X : zS2), i < 5 → so i X = zfor (si i) 0 X (5 - i)) (hi : ∀ (i j : Nat) (X : zS2), i + j < 5 → X 0 10 = p → (∀ k q : Nat, k ≠ 3 → X k q = S k q) → si i j X = za X 3 (25 * g + 5 * i + j) (v i j % p)) : (∀ k q : Nat, k ≠ 3 → (zfor so 0 S 5) k q = S k q) ∧ (∀ q : Nat, ¬ (25 * g ≤ q ∧ q < 25 * g + 25) → (zfor so 0 S 5) 3 q = S 3 q) ∧ ∀ A B : Nat, A < 5 → B < 5 → (zfor so 0 S 5) 3 (25 * g + 5 * A + B) = if A + B ≤ 4 then v A B % p else S 3 (25 * g + 5 * A + B) := by
  have h : (fun (n : Nat) (X : zS2) => (∀ k q : Nat, k ≠ 3 → X k q = S k q) ∧ (∀ q : Nat, ¬ (25 * g ≤ q ∧ q < 25 * g + 25) → X 3 q = S 3 q) ∧ ∀ A B : Nat, A < 5 → B < 5 → X 3 (25 * g + 5 * A + B) = if A < n ∧ A + B ≤ 4 then v A B % p else S 3 (25 * g + 5 * A + B)) 5 (zfor so 0 S 5) := by
    refine zfor_ix (I := fun (n : Nat) (X : zS2) => (∀ k q : Nat, k ≠ 3 → X k q = S k q) ∧ (∀ q : Nat, ¬ (25 * g ≤ q ∧ q < 25 * g + 25) → X 3 q = S 3 q) ∧ ∀ A B : Nat, A < 5 → B < 5 → X 3 (25 * g + 5 * A + B) = if A < n ∧ A + B ≤ 4 then v A B % p else S 3 (25 * g + 5 * A + B)) ⟨fun _ _ _ => rfl, fun _ _ => rfl, fun A B _ _ => by rw [if_neg (by omega)]⟩ 5 (fun i X hi5 hX => ?_)
    rw [show 0 + (i : Int) = (i : Int) by omega, ho i X hi5]
    have h2 : (fun (n : Nat) (Y : zS2) => (∀ k q : Nat, k ≠ 3 → Y k q = S k q) ∧ (∀ q : Nat, ¬ (25 * g ≤ q ∧ q < 25 * g + 25) → Y 3 q = S 3 q) ∧ ∀ A B : Nat, A < 5 → B < 5 → Y 3 (25 * g + 5 * A + B) = if (A < i ∧ A + B ≤ 4) ∨ (A = i ∧ B < n) then v A B % p else S 3 (25 * g + 5 * A + B)) (5 - i) (zfor (si i) 0 X (5 - i)) := by
      refine zfor_ix (I := fun (n : Nat) (Y : zS2) => (∀ k q : Nat, k ≠ 3 → Y k q = S k q) ∧ (∀ q : Nat, ¬ (25 * g ≤ q ∧ q < 25 * g + 25) → Y 3 q = S 3 q) ∧ ∀ A B : Nat, A < 5 → B < 5 → Y 3 (25 * g + 5 * A + B) = if (A < i ∧ A + B ≤ 4) ∨ (A = i ∧ B < n) then v A B % p else S 3 (25 * g + 5 * A + B)) ⟨hX.1, hX.2.1, fun A B hA hB => ?_⟩ (5 - i) (fun j Y hj hY => ?_)
      · rw [hX.2.2 A B hA hB]
        by_cases q : A < i ∧ A + B ≤ 4
        · rw [if_pos q, if_pos (by omega)]
        · rw [if_neg q, if_neg (by omega)]
      · rw [show 0 + (j : Int) = (j : Int) by omega, hi i j Y (by omega) (by rw [hY.1 0 10 (by decide), hS]) hY.1]
        refine ⟨fun k q hk => by rw [za_ne (by omega)]; exact hY.1 k q hk, fun q hq => by rw [za_ne (by omega)]; exact hY.2.1 q hq, fun A B hA hB => ?_⟩
        by_cases e : A = i ∧ B = j
        · rw [e.1, e.2, za_same, if_pos (by omega)]
        · rw [za_ne (by omega), hY.2.2 A B hA hB]
          by_cases q : (A < i ∧ A + B ≤ 4) ∨ (A = i ∧ B < j)
          · rw [if_pos q, if_pos (by omega)]
          · rw [if_neg q, if_neg (by omega)]
    refine ⟨h2.1, h2.2.1, fun A B hA hB => ?_⟩
    rw [h2.2.2 A B hA hB]
    by_cases q : (A < i ∧ A + B ≤ 4) ∨ (A = i ∧ B < 5 - i)
    · rw [if_pos q, if_pos (by omega)]
    · rw [if_neg q, if_neg (by omega)]
  refine ⟨h.1, h.2.1, fun A B hA hB => ?_⟩
  rw [h.2.2 A B hA hB]
  by_cases q : A + B ≤ 4
  · rw [if_pos q, if_pos (by omega)]
  · rw [if_neg q, if_neg (by omega)]
theorem zm_setsE {X : zS2} {p : Int} {g i j : Nat} {v : Int} (hX : X 0 10 = p) (hp : 0 < p) : zm_sets X g i j v = za X 3 (25 * g + 5 * i + j) (v % p) := by
  show za X 3 ((((25 * (g : Int)) + (5 * (i : Int))) + (j : Int)).toNat) (zm_modulo X v) = _
  rw [zB_mod hX hp, show (((25 * (g : Int)) + (5 * (i : Int))) + (j : Int)).toNat = 25 * g + 5 * i + j by omega]
/-- what the model's product is -/
theorem zm_mul {K : Type} [Lean.Grind.CommRing K] {p : Int} {φ : Int → K} (h : zKp K p φ) {S : zS2} {to a b : Nat} {ca cb : Nat → Int} (hS : S 0 10 = p) (hp : 0 < p) (ha : ∀ i j : Nat, i + j ≤ 4 → S 3 (25 * a + 5 * i + j) = ca (5 * i + j)) (hb : ∀ i j : Nat, i + j ≤ 4 → S 3 (25 * b + 5 * i + j) = cb (5 * i + j)) :
    (∃ T, zm_multiplies S to a b = (0, T) ∧ (∀ k i : Nat, k ≠ 4 → T k i = S k i) ∧ ∃ A B : Nat, 4 < A + B ∧ kc_mul (zq φ ca) (zq φ cb) A B ≠ 0) ∨
    ∃ U, zm_multiplies S to a b = (1, U) ∧ (∀ k i : Nat, k ≠ 4 → ¬ (k = 3 ∧ 25 * to ≤ i ∧ i < 25 * to + 25) → U k i = S k i) ∧ (∀ A B : Nat, 4 < A + B → kc_mul (zq φ ca) (zq φ cb) A B = 0) ∧ (∀ A B : Nat, A + B ≤ 4 → (0 ≤ U 3 (25 * to + 5 * A + B) ∧ U 3 (25 * to + 5 * A + B) < p) ∧ φ (U 3 (25 * to + 5 * A + B)) = kc_mul (zq φ ca) (zq φ cb) A B) ∧ ∀ A B : Nat, A < 5 → B < 5 → 4 < A + B → U 3 (25 * to + 5 * A + B) = 0 := by
  obtain ⟨w1, w2⟩ := zm_wide h ha hb
  obtain ⟨T, hT⟩ : ∃ T, T = zfor (zm_multiplies_L27 a b) 0 (zfor zm_multiplies_L3 0 S 81) 5 := ⟨_, rfl⟩
  rw [← hT] at w1 w2
  have em : zm_multiplies S to a b = zsum (zm_multiplies_W151 T 10 0) (fun r151 => r151) (fun i151 => (1, zfor (zm_multiplies_L223 to) 0 (zm_empties T to) 5)) := by
    unfold zm_multiplies
    rw [zlet_v, show (80 + 1 - 0 : Int).toNat = 81 from rfl, zlet_v, show (4 + 1 - 0 : Int).toNat = 5 from rfl, ← hT]
    rfl
  have t10 : T 0 10 = p := by rw [w1 0 10 (by decide), hS]
  have big : ∀ A B : Nat, ¬ (A < 9 ∧ B < 9) → kc_mul (zq φ ca) (zq φ cb) A B = 0 := fun A B hAB => kc_zero (n := 4) (m := 4) (fun i j hij => zq_f (by omega)) (fun i j hij => zq_f (by omega)) A B (by omega)
  rcases zm_W151 T 10 0 (by omega) (by omega) with ⟨z1, a0, b0, a1, b1, ab, z2⟩ | ⟨z1, z2⟩
  · have z1' : zm_multiplies_W151 T 10 0 = .inl (0, T) := z1
    refine Or.inl ⟨T, by rw [em, z1']; rfl, w1, a0, b0, ab, fun e => z2 ?_⟩
    rw [t10, zK_t0 h]
    rw [← w2 a0 b0 a1 b1] at e
    exact e
  · have z1' : zm_multiplies_W151 T 10 0 = .inr 9 := z1
    have k0 : ∀ A B : Nat, 4 < A + B → kc_mul (zq φ ca) (zq φ cb) A B = 0 := fun A B hAB => by
      by_cases q : A < 9 ∧ B < 9
      · have e := z2 A B (by omega) q.1 q.2 hAB
        rw [t10, zK_t0 h] at e
        rw [← w2 A B q.1 q.2]
        exact e
      · exact big A B q
    have es := zm_empties_sp T to
    obtain ⟨f1, f2, f3⟩ := zm_trif (S := zm_empties T to) (p := p) (g := to) (v := fun i j => T 4 (9 * i + j)) (so := zm_multiplies_L223 to) (si := zm_multiplies_L232 to) (by rw [es, if_neg (by omega), t10]) hp (fun i X hi => by
      show zfor (zm_multiplies_L232 to i) 0 X ((4 - (i : Int)) + 1 - 0).toNat = _
      rw [show ((4 - (i : Int)) + 1 - 0).toNat = 5 - i by omega]) (fun i j X hij hX hX2 => by
      show zm_sets X to i j (X 4 (((9 * (i : Int)) + (j : Int)).toNat)) = _
      rw [zm_setsE hX hp, show ((9 * (i : Int)) + (j : Int)).toNat = 9 * i + j by omega, hX2 4 _ (by decide), es, if_neg (by omega)])
    refine Or.inr ⟨zfor (zm_multiplies_L223 to) 0 (zm_empties T to) 5, by rw [em, z1']; rfl, fun k i hk hki => ?_, k0, fun A B hAB => ?_, fun A B hA hB hAB => ?_⟩
    · by_cases k3 : k = 3
      · rw [k3, f2 i (by omega), es, if_neg (by omega), w1 3 i (by decide)]
      · rw [f1 k i k3, es, if_neg (by omega), w1 k i hk]
    · rw [f3 A B (by omega) (by omega), if_pos hAB]
      refine ⟨⟨Int.emod_nonneg _ (by omega), Int.emod_lt_of_pos _ hp⟩, ?_⟩
      rw [h.em]
      exact w2 A B (by omega) (by omega)
    · rw [f3 A B hA hB, if_neg (by omega), es, if_pos (by omega)]
end ZPc
