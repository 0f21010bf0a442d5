section ZHe
/-- a product, read from the other end -/
theorem kh_1d {K : Type} [Lean.Grind.CommRing K] {p q : Nat → K} {s r N B : Nat} (hp : ∀ k, s < k → p k = 0) (hq : ∀ k, r < k → q k = 0) (hN : N + B = s + r) : ka_s (fun b => p b * q (N - b)) (N + 1) = ka_s (fun c => (if c ≤ s then p (s - c) else 0) * (if B - c ≤ r then q (r - (B - c)) else 0)) (B + 1) := by
  obtain ⟨f, hf⟩ : ∃ f : Nat → K, f = fun b => if b ≤ N then p b * q (N - b) else 0 := ⟨_, rfl⟩
  obtain ⟨g, hg⟩ : ∃ g : Nat → K, g = fun c => if c ≤ B then (if c ≤ s then p (s - c) else 0) * (if B - c ≤ r then q (r - (B - c)) else 0) else 0 := ⟨_, rfl⟩
  have e1 : ka_s (fun b => p b * q (N - b)) (N + 1) = ka_s f (N + 1) := ka_s_congr _ (fun b hb => by
    rw [hf]
    exact (if_pos (by omega)).symm)
  have e2 : ka_s f (N + 1) = ka_s f (s + 1) := by
    by_cases c : N ≤ s
    · exact (ka_s_ext (s + 1) (by omega) (fun i h1 h2 => by rw [hf]; exact if_neg (by omega))).symm
    · exact ka_s_ext (N + 1) (by omega) (fun i h1 h2 => by
        rw [hf]
        show (if i ≤ N then p i * q (N - i) else 0) = 0
        rw [if_pos (by omega), hp i (by omega), ka_zm])
  have e3 : ka_s (fun c => (if c ≤ s then p (s - c) else 0) * (if B - c ≤ r then q (r - (B - c)) else 0)) (B + 1) = ka_s g (B + 1) := ka_s_congr _ (fun b hb => by
    rw [hg]
    exact (if_pos (by omega)).symm)
  have e4 : ka_s g (B + 1) = ka_s g (s + 1) := by
    by_cases c : B ≤ s
    · exact (ka_s_ext (s + 1) (by omega) (fun i h1 h2 => by rw [hg]; exact if_neg (by omega))).symm
    · exact ka_s_ext (B + 1) (by omega) (fun i h1 h2 => by
        rw [hg]
        show (if i ≤ B then (if i ≤ s then p (s - i) else 0) * (if B - i ≤ r then q (r - (B - i)) else 0) else 0) = 0
        rw [if_pos (by omega), if_neg (by omega), ka_zm])
  rw [e1, e2, e3, e4, ka_s_rev]
  refine ka_s_congr _ (fun c hc => ?_)
  rw [hf, hg]
  show (if s + 1 - 1 - c ≤ N then p (s + 1 - 1 - c) * q (N - (s + 1 - 1 - c)) else 0) = (if c ≤ B then (if c ≤ s then p (s - c) else 0) * (if B - c ≤ r then q (r - (B - c)) else 0) else 0)
  rw [show s + 1 - 1 - c = s - c by omega]
  by_cases c1 : c ≤ B
  · rw [if_pos c1, if_pos (show c ≤ s by omega)]
    by_cases c2 : B - c ≤ r
    · rw [if_pos c2, if_pos (show s - c ≤ N by omega), show N - (s - c) = r - (B - c) by omega]
    · rw [if_neg c2, if_neg (show ¬ s - c ≤ N by omega), ka_mz]
  · rw [if_neg c1, if_pos (show s - c ≤ N by omega), hq (N - (s - c)) (by omega), ka_mz]
/-- a FORM, seen where y is 1 -/
def kh_L {K : Type} [Lean.Grind.CommRing K] (D : Nat) (P : Nat → Nat → K) : Nat → Nat → K := fun a b => if a + b ≤ D then P a (D - a - b) else 0
theorem kh_L_mul {K : Type} [Lean.Grind.CommRing K] {P Q : Nat → Nat → K} {D E : Nat} (hP : ∀ i j, D < i + j → P i j = 0) (hQ : ∀ i j, E < i + j → Q i j = 0) : kh_L (D + E) (kc_mul P Q) = kc_mul (kh_L D P) (kh_L E Q) := funext fun A => funext fun B => by
  have e0 : kc_mul (kh_L D P) (kh_L E Q) A B = ka_s (fun a => ka_s (fun c => kh_L D P a c * kh_L E Q (A - a) (B - c)) (B + 1)) (A + 1) := rfl
  have e1 : kh_L (D + E) (kc_mul P Q) A B = if A + B ≤ D + E then kc_mul P Q A (D + E - A - B) else 0 := rfl
  rw [e0, e1]
  by_cases c : A + B ≤ D + E
  · rw [if_pos c]
    show ka_s (fun a => ka_s (fun b => P a b * Q (A - a) (D + E - A - B - b)) (D + E - A - B + 1)) (A + 1) = _
    refine ka_s_congr _ (fun a ha => ?_)
    by_cases c1 : a ≤ D
    · by_cases c2 : A - a ≤ E
      · rw [kh_1d (p := P a) (q := Q (A - a)) (s := D - a) (r := E - (A - a)) (B := B) (fun k hk => hP _ _ (by omega)) (fun k hk => hQ _ _ (by omega)) (by omega)]
        refine ka_s_congr _ (fun b hb => ?_)
        show _ = (if a + b ≤ D then P a (D - a - b) else 0) * (if A - a + (B - b) ≤ E then Q (A - a) (E - (A - a) - (B - b)) else 0)
        by_cases c3 : b ≤ D - a
        · rw [if_pos c3, if_pos (show a + b ≤ D by omega)]
          by_cases c4 : B - b ≤ E - (A - a)
          · rw [if_pos c4, if_pos (show A - a + (B - b) ≤ E by omega)]
          · rw [if_neg c4, if_neg (show ¬ A - a + (B - b) ≤ E by omega)]
        · rw [if_neg c3, if_neg (show ¬ a + b ≤ D by omega), ka_zm, ka_zm]
      · rw [ka_s_zero _ (fun b hb => by rw [hQ (A - a) _ (by omega), ka_mz]), ka_s_zero _ (fun b hb => by
          show _ * (if A - a + (B - b) ≤ E then Q (A - a) (E - (A - a) - (B - b)) else 0) = 0
          rw [if_neg (by omega), ka_mz])]
    · rw [ka_s_zero _ (fun b hb => by rw [hP a _ (by omega), ka_zm]), ka_s_zero _ (fun b hb => by
        show (if a + b ≤ D then P a (D - a - b) else 0) * _ = 0
        rw [if_neg (by omega), ka_zm])]
  · rw [if_neg c]
    refine (ka_s_zero _ (fun a ha => ka_s_zero _ (fun b hb => ?_))).symm
    show (if a + b ≤ D then P a (D - a - b) else 0) * (if A - a + (B - b) ≤ E then Q (A - a) (E - (A - a) - (B - b)) else 0) = 0
    by_cases c3 : a + b ≤ D
    · rw [if_neg (show ¬ A - a + (B - b) ≤ E by omega), ka_mz]
    · rw [if_neg c3, ka_zm]
theorem kh_L_lin {K : Type} [Lean.Grind.CommRing K] (D : Nat) (c : Nat → K) (F : Nat → Nat → Nat → K) (m : Nat) : kh_L D (fun i j => ka_s (fun t => c t * F t i j) m) = fun i j => ka_s (fun t => c t * kh_L D (F t) i j) m := funext fun a => funext fun b => by
  unfold kh_L
  by_cases q : a + b ≤ D
  · rw [if_pos q]
    exact ka_s_congr _ (fun t _ => by rw [if_pos q])
  · rw [if_neg q]
    exact (ka_s_zero _ (fun t _ => by rw [if_neg q, ka_mz])).symm
theorem kh_L_dg {K : Type} [Lean.Grind.CommRing K] {D : Nat} {P : Nat → Nat → K} : ∀ i j, D < i + j → kh_L D P i j = 0 := fun i j h => if_neg (by omega)
theorem kh_L_inv {K : Type} [Lean.Grind.CommRing K] {D : Nat} {P : Nat → Nat → K} (hP : ∀ i j, D < i + j → P i j = 0) : kh_L D (kh_L D P) = P := funext fun a => funext fun b => by
  unfold kh_L
  by_cases q : a + b ≤ D
  · rw [if_pos q, if_pos (by omega), show D - a - (D - a - b) = b by omega]
  · rw [if_neg q, hP a b (by omega)]
/-- the letters change places -/
def kh_T {K : Type} (P : Nat → Nat → K) : Nat → Nat → K := fun i j => P j i
theorem kh_T_mul {K : Type} [Lean.Grind.CommRing K] (P Q : Nat → Nat → K) : kh_T (kc_mul P Q) = kc_mul (kh_T P) (kh_T Q) := funext fun a => funext fun b => by
  show ka_s (fun i => ka_s (fun j => P i j * Q (b - i) (a - j)) (a + 1)) (b + 1) = ka_s (fun j => ka_s (fun i => P i j * Q (b - i) (a - j)) (b + 1)) (a + 1)
  rw [ka_s_swap]
/-- a FORM, seen where x is 1 -/
def kh_F {K : Type} [Lean.Grind.CommRing K] (D : Nat) (P : Nat → Nat → K) : Nat → Nat → K := kh_L D (kh_T P)
theorem kh_T_dg {K : Type} [Lean.Grind.CommRing K] {D : Nat} {P : Nat → Nat → K} (hP : ∀ i j, D < i + j → P i j = 0) : ∀ i j, D < i + j → kh_T P i j = 0 := fun i j h => hP j i (by omega)
/-- other origin -/
def kh_S {K : Type} [Lean.Grind.CommRing K] (x y : K) (P : Nat → Nat → K) : Nat → Nat → K := kc_sb (kc_l 1 0 x) (kc_l 0 1 y) P 200
theorem kh_lt {K : Type} [Lean.Grind.CommRing K] {D : Nat} {P : Nat → Nat → K} (hP : ∀ i j, D < i + j → P i j = 0) : ∀ i j, D + 1 ≤ i ∨ D + 1 ≤ j → P i j = 0 := fun i j h => hP i j (by omega)
theorem kh_S_mul {K : Type} [Lean.Grind.CommRing K] {x y : K} {P Q : Nat → Nat → K} {D E : Nat} (hP : ∀ i j, D < i + j → P i j = 0) (hQ : ∀ i j, E < i + j → Q i j = 0) (h : D + E ≤ 100) : kh_S x y (kc_mul P Q) = kc_mul (kh_S x y P) (kh_S x y Q) := by
  have hPQ : ∀ i j, (D + 1) + (E + 1) ≤ i ∨ (D + 1) + (E + 1) ≤ j → kc_mul P Q i j = 0 := fun i j hij => kc_zero hP hQ i j (by omega)
  unfold kh_S
  rw [kc_sb_ext (n := (D + 1) + (E + 1)) (by omega) hPQ, kc_sb_ext (n := D + 1) (by omega) (kh_lt hP), kc_sb_ext (n := E + 1) (by omega) (kh_lt hQ), kc_sb_mul (kh_lt hP) (kh_lt hQ)]
theorem kh_S_lin {K : Type} [Lean.Grind.CommRing K] (x y : K) (c : Nat → K) (F : Nat → Nat → Nat → K) (m : Nat) : kh_S x y (fun i j => ka_s (fun t => c t * F t i j) m) = fun i j => ka_s (fun t => c t * kh_S x y (F t) i j) m := kc_sb_lin c F m 200
theorem kh_S_dg {K : Type} [Lean.Grind.CommRing K] {x y : K} {P : Nat → Nat → K} {D : Nat} (hP : ∀ i j, D < i + j → P i j = 0) : ∀ i j, D < i + j → kh_S x y P i j = 0 := fun A B hAB => by
  unfold kh_S kc_sb
  refine ka_s_zero _ (fun i hi => ka_s_zero _ (fun j hj => ?_))
  by_cases q : D < i + j
  · rw [hP i j q, ka_zm]
  · rw [kc_zero (n := i * 1) (m := j * 1) (kc_pw_dg kc_l_dg i) (kc_pw_dg kc_l_dg j) A B (by omega), ka_mz]
theorem kh_r1 {K : Type} [Lean.Grind.CommRing K] (u v t x : K) : 1 * (1 * u + 0 * v + (-x) * t) + 0 * (0 * u + 1 * v + t) + x * t = u := by grind
theorem kh_l_sum {K : Type} [Lean.Grind.CommRing K] (A B E : K) (i j : Nat) : kc_l A B E i j = A * kc_t 1 1 0 i j + B * kc_t 1 0 1 i j + E * kc_t 1 0 0 i j := by
  unfold kc_l kc_t
  by_cases c1 : i = 1 ∧ j = 0
  · rw [if_pos c1, if_pos c1, if_neg (by omega), if_neg (by omega)]; grind
  · rw [if_neg c1, if_neg c1]
    by_cases c2 : i = 0 ∧ j = 1
    · rw [if_pos c2, if_pos c2, if_neg (by omega)]; grind
    · rw [if_neg c2, if_neg c2]
      by_cases c3 : i = 0 ∧ j = 0
      · rw [if_pos c3, if_pos c3]; grind
      · rw [if_neg c3, if_neg c3]; grind
theorem kh_r2 {K : Type} [Lean.Grind.CommRing K] (u v t x y : K) : 1 * (1 * u + 0 * v + (-x) * t) + 0 * (0 * u + 1 * v + (-y) * t) + x * t = u := by grind
theorem kh_r3 {K : Type} [Lean.Grind.CommRing K] (u v t x y : K) : 0 * (1 * u + 0 * v + (-x) * t) + 1 * (0 * u + 1 * v + (-y) * t) + y * t = v := by grind
theorem kh_S_inv {K : Type} [Lean.Grind.CommRing K] {x y : K} {P : Nat → Nat → K} (hP : ∀ i j, 24 < i + j → P i j = 0) : kh_S (-x) (-y) (kh_S x y P) = P := by
  have lt2 : ∀ A B E : K, kc_lt 2 (kc_l A B E) := fun A B E i j hij => kc_l_dg i j (by omega)
  unfold kh_S
  rw [kc_sb_ext (n := 25) (N := 200) (P := kc_l 1 0 x) (Q := kc_l 0 1 y) (f := P) (by omega) (fun i j hij => hP i j (by omega)), kc_sb_comp (n := 2) (lt2 _ _ _) (lt2 _ _ _) (by omega) (by omega), kc_sb_l _ _ _ _ _ (by omega), kc_sb_l _ _ _ _ _ (by omega)]
  have e1 : (fun i j => 1 * kc_l 1 0 (-x) i j + 0 * kc_l 0 1 (-y) i j + x * kc_t 1 0 0 i j) = kc_t (1 : K) 1 0 := funext fun i => funext fun j => by
    rw [kh_l_sum, kh_l_sum]
    exact kh_r2 _ _ _ _ _
  have e2 : (fun i j => 0 * kc_l 1 0 (-x) i j + 1 * kc_l 0 1 (-y) i j + y * kc_t 1 0 0 i j) = kc_t (1 : K) 0 1 := funext fun i => funext fun j => by
    rw [kh_l_sum, kh_l_sum]
    exact kh_r3 _ _ _ _ _
  rw [e1, e2]
  exact kc_sb_id (fun i j hij => hP i j (by omega))
/-- a way to see FORMS near a POINT -/
def kh_ok {K : Type} [Lean.Grind.CommRing K] (Λ : Nat → (Nat → Nat → K) → Nat → Nat → K) : Prop := (∀ D P, (∀ i j, D < i + j → P i j = 0) → ∀ i j, D < i + j → Λ D P i j = 0) ∧ (∀ D E P Q, D + E ≤ 24 → (∀ i j, D < i + j → P i j = 0) → (∀ i j, E < i + j → Q i j = 0) → Λ (D + E) (kc_mul P Q) = kc_mul (Λ D P) (Λ E Q)) ∧ (∀ D (c : Nat → K) (F : Nat → Nat → Nat → K) m, Λ D (fun i j => ka_s (fun t => c t * F t i j) m) = fun i j => ka_s (fun t => c t * Λ D (F t) i j) m) ∧ ∀ P, (∀ i j, 24 < i + j → P i j = 0) → (∀ i j, Λ 24 P i j = 0) → ∀ i j, P i j = 0
theorem kh_S_ok {K : Type} [Lean.Grind.CommRing K] (x y : K) (ρ : Nat → (Nat → Nat → K) → Nat → Nat → K) (hρ : kh_ok ρ) : kh_ok (fun D P => kh_S x y (ρ D P)) := by
  obtain ⟨h1, h2, h3, h4⟩ := hρ
  refine ⟨fun D P hP => kh_S_dg (h1 D P hP), fun D E P Q hDE hP hQ => ?_, fun D c F m => ?_, fun P hP hz => h4 P hP ?_⟩
  · show kh_S x y (ρ (D + E) (kc_mul P Q)) = _
    rw [h2 D E P Q hDE hP hQ, kh_S_mul (h1 D P hP) (h1 E Q hQ) (by omega)]
  · show kh_S x y (ρ D _) = _
    rw [h3, kh_S_lin]
  · have e : kh_S x y (ρ 24 P) = fun _ _ => 0 := funext fun i => funext fun j => hz i j
    have e2 := kh_S_inv (x := x) (y := y) (h1 24 P hP)
    rw [e] at e2
    intro i j
    rw [← e2]
    have := congrFun (congrFun (kh_S_lin (-x) (-y) (fun _ => (0 : K)) (fun _ _ _ => 0) 0) i) j
    exact this
theorem kh_id_ok {K : Type} [Lean.Grind.CommRing K] : kh_ok (fun _ (P : Nat → Nat → K) => P) := ⟨fun D P hP => hP, fun D E P Q _ _ _ => rfl, fun D c F m => rfl, fun P _ hz => hz⟩
theorem kh_L_ok {K : Type} [Lean.Grind.CommRing K] : kh_ok (kh_L (K := K)) := ⟨fun D P hP => kh_L_dg, fun D E P Q _ hP hQ => kh_L_mul hP hQ, fun D c F m => kh_L_lin D c F m, fun P hP hz i j => by
  have e : kh_L 24 P = fun _ _ => 0 := funext fun i => funext fun j => hz i j
  have e2 := kh_L_inv hP
  rw [e] at e2
  rw [← e2]
  unfold kh_L
  split <;> rfl⟩
theorem kh_F_ok {K : Type} [Lean.Grind.CommRing K] : kh_ok (kh_F (K := K)) := ⟨fun D P hP => kh_L_dg, fun D E P Q _ hP hQ => by
  unfold kh_F
  rw [kh_T_mul, kh_L_mul (kh_T_dg hP) (kh_T_dg hQ)], fun D c F m => kh_L_lin D c (fun t => kh_T (F t)) m, fun P hP hz i j => by
  have e : kh_F 24 P = fun _ _ => 0 := funext fun i => funext fun j => hz i j
  have e2 := kh_L_inv (kh_T_dg hP)
  unfold kh_F at e
  rw [e] at e2
  have e3 := congrFun (congrFun e2 j) i
  show kh_T P j i = 0
  rw [← e3]
  unfold kh_L
  split <;> rfl⟩
end ZHe
