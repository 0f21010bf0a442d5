section ZQa
theorem kb_1 {B : Type} [Lean.Grind.CommRing B] {F G : Nat → B} {n m : Nat} (P : B) (hF : ∀ i, n ≤ i → F i = 0) (hG : ∀ i, m ≤ i → G i = 0) : ka_s (fun t => ka_s (fun a => F a * G (t - a)) (t + 1) * P ^ t) (n + m) = ka_s (fun a => F a * P ^ a) n * ka_s (fun b => G b * P ^ b) m := by
  have e1 : ka_s (fun t => ka_s (fun a => F a * G (t - a)) (t + 1) * P ^ t) (n + m) = ka_s (fun t => ka_s (fun a => F a * G (t - a) * P ^ t) (t + 1)) (n + m) := ka_s_congr _ (fun t _ => (ka_s_mulr (P ^ t) (fun a => F a * G (t - a)) (t + 1)).symm)
  rw [e1, ka_s_tri (fun t a => F a * G (t - a) * P ^ t), ka_s_ext (m := n) (n + m) (by omega) (fun i h1 h2 => ka_s_zero _ (fun c _ => by rw [hF i h1]; grind)), ← ka_s_mulr]
  refine ka_s_congr _ (fun a ha => ?_)
  rw [ka_s_ext (m := m) (n + m - a) (by omega) (fun c h1 h2 => by rw [show a + c - a = c by omega, hG c h1]; grind), ← ka_s_mul]
  refine ka_s_congr _ (fun c hc => ?_)
  rw [show a + c - a = c by omega, Lean.Grind.Semiring.pow_add]; grind
/-- a sum by two letters -/
def kb_e {B : Type} [Lean.Grind.CommRing B] (P Q : B) (F : Nat → Nat → B) (n : Nat) : B := ka_s (fun i => ka_s (fun j => F i j * Q ^ j) n * P ^ i) n
theorem kb_e_ext {B : Type} [Lean.Grind.CommRing B] {P Q : B} {F : Nat → Nat → B} {n N : Nat} (h : n ≤ N) (hF : ∀ i j, n ≤ i ∨ n ≤ j → F i j = 0) : kb_e P Q F N = kb_e P Q F n := by
  unfold kb_e
  rw [ka_s_ext (m := n) N h (fun i h1 h2 => by
    rw [ka_s_zero _ (fun j _ => by rw [hF i j (Or.inl h1)]; grind)]; grind)]
  refine ka_s_congr _ (fun i hi => ?_)
  rw [ka_s_ext (m := n) N h (fun j h1 h2 => by rw [hF i j (Or.inr h1)]; grind)]
theorem kb_e_add {B : Type} [Lean.Grind.CommRing B] {P Q : B} (F G : Nat → Nat → B) (n : Nat) : kb_e P Q (fun i j => F i j + G i j) n = kb_e P Q F n + kb_e P Q G n := by
  unfold kb_e
  rw [← ka_s_add]
  refine ka_s_congr _ (fun i hi => ?_)
  have e : ka_s (fun j => (F i j + G i j) * Q ^ j) n = ka_s (fun j => F i j * Q ^ j) n + ka_s (fun j => G i j * Q ^ j) n := by
    rw [← ka_s_add]
    exact ka_s_congr _ (fun j hj => by grind)
  rw [e]; grind
theorem kb_e_mulc {B : Type} [Lean.Grind.CommRing B] {P Q : B} (a : B) (F : Nat → Nat → B) (n : Nat) : kb_e P Q (fun i j => a * F i j) n = a * kb_e P Q F n := by
  unfold kb_e
  rw [← ka_s_mul]
  refine ka_s_congr _ (fun i hi => ?_)
  have e : ka_s (fun j => (a * F i j) * Q ^ j) n = a * ka_s (fun j => F i j * Q ^ j) n := by
    rw [← ka_s_mul]
    exact ka_s_congr _ (fun j hj => by grind)
  rw [e]; grind
/-- products go to products -/
theorem kb_2 {B : Type} [Lean.Grind.CommRing B] {F G : Nat → Nat → B} {n m : Nat} (P Q : B) (hF : ∀ i j, n ≤ i ∨ n ≤ j → F i j = 0) (hG : ∀ i j, m ≤ i ∨ m ≤ j → G i j = 0) : kb_e P Q (kc_mul F G) (n + m) = kb_e P Q F n * kb_e P Q G m := by
  unfold kb_e
  have k := kb_1 (F := fun i => ka_s (fun j => F i j * Q ^ j) n) (G := fun i => ka_s (fun j => G i j * Q ^ j) m) (n := n) (m := m) P (fun i hi => ka_s_zero _ (fun j _ => by rw [hF i j (Or.inl hi)]; grind)) (fun i hi => ka_s_zero _ (fun j _ => by rw [hG i j (Or.inl hi)]; grind))
  rw [← k]
  refine ka_s_congr _ (fun i hi => ?_)
  have e : ka_s (fun j => kc_mul F G i j * Q ^ j) (n + m) = ka_s (fun a => ka_s (fun j => F a j * Q ^ j) n * ka_s (fun j => G (i - a) j * Q ^ j) m) (i + 1) := by
    have e1 : ka_s (fun j => kc_mul F G i j * Q ^ j) (n + m) = ka_s (fun j => ka_s (fun a => ka_s (fun b => F a b * G (i - a) (j - b)) (j + 1) * Q ^ j) (i + 1)) (n + m) := ka_s_congr _ (fun j _ => (ka_s_mulr (Q ^ j) (fun a => ka_s (fun b => F a b * G (i - a) (j - b)) (j + 1)) (i + 1)).symm)
    rw [e1, ka_s_swap]
    refine ka_s_congr _ (fun a ha => ?_)
    exact kb_1 (F := F a) (G := G (i - a)) (n := n) (m := m) Q (fun j hj => hF a j (Or.inr hj)) (fun j hj => hG _ j (Or.inr hj))
  rw [e]
end ZQa
section ZQb
theorem kc_mul_comm {K : Type} [Lean.Grind.CommRing K] (f g : Nat → Nat → K) : kc_mul f g = kc_mul g f := by
  rw [kc_mul_R, kc_mul_R]; exact @ka_mul_comm (Nat → K) ka_R f g
theorem kc_mul_assoc {K : Type} [Lean.Grind.CommRing K] (f g h : Nat → Nat → K) : kc_mul (kc_mul f g) h = kc_mul f (kc_mul g h) := by
  rw [kc_mul_R, kc_mul_R, kc_mul_R, kc_mul_R]; exact @ka_mul_assoc (Nat → K) ka_R f g h
/-- one TERM -/
def kc_t {K : Type} [Lean.Grind.CommRing K] (c : K) (r u : Nat) : Nat → Nat → K := fun i j => if i = r ∧ j = u then c else 0
theorem kc_t_mul {K : Type} [Lean.Grind.CommRing K] (c : K) (r u : Nat) (f : Nat → Nat → K) (i j : Nat) : kc_mul (kc_t c r u) f i j = if r ≤ i ∧ u ≤ j then c * f (i - r) (j - u) else 0 := by
  unfold kc_mul
  by_cases h : r ≤ i ∧ u ≤ j
  · rw [if_pos h, ka_s_one (k := r) (i + 1) (by omega) (fun a ha hne => ka_s_zero _ (fun b hb => by
      show (if a = r ∧ b = u then c else 0) * f (i - a) (j - b) = 0
      rw [if_neg (fun q => hne q.1)]; grind)), ka_s_one (k := u) (j + 1) (by omega) (fun b hb hne => by
      show (if r = r ∧ b = u then c else 0) * f (i - r) (j - b) = 0
      rw [if_neg (fun q => hne q.2)]; grind)]
    show (if r = r ∧ u = u then c else 0) * f (i - r) (j - u) = _
    rw [if_pos ⟨rfl, rfl⟩]
  · rw [if_neg h]
    exact ka_s_zero _ (fun a ha => ka_s_zero _ (fun b hb => by
      show (if a = r ∧ b = u then c else 0) * f (i - a) (j - b) = 0
      rw [if_neg (by omega)]; grind))
theorem kc_c_mul {K : Type} [Lean.Grind.CommRing K] (c : K) (f : Nat → Nat → K) : kc_mul (kc_t c 0 0) f = fun i j => c * f i j := funext fun i => funext fun j => by
  rw [kc_t_mul, if_pos ⟨Nat.zero_le _, Nat.zero_le _⟩]; rfl
theorem kc_1_mul {K : Type} [Lean.Grind.CommRing K] (f : Nat → Nat → K) : kc_mul (kc_t 1 0 0) f = f := by
  rw [kc_c_mul]
  exact funext fun i => funext fun j => by grind
def kc_pw {K : Type} [Lean.Grind.CommRing K] (f : Nat → Nat → K) : Nat → Nat → Nat → K
  | 0 => kc_t 1 0 0
  | n + 1 => kc_mul (kc_pw f n) f
theorem kc_mul_add {K : Type} [Lean.Grind.CommRing K] (f g h : Nat → Nat → K) : kc_mul (fun i j => f i j + g i j) h = fun i j => kc_mul f h i j + kc_mul g h i j := funext fun i => funext fun j => by
  unfold kc_mul
  rw [← ka_s_add]
  refine ka_s_congr _ (fun a ha => ?_)
  rw [← ka_s_add]
  exact ka_s_congr _ (fun b hb => by grind)
theorem kc_mul_c {K : Type} [Lean.Grind.CommRing K] (c : K) (f h : Nat → Nat → K) : kc_mul (fun i j => c * f i j) h = fun i j => c * kc_mul f h i j := by
  rw [← kc_c_mul, kc_mul_assoc, kc_c_mul]
theorem kc_pw_dg {K : Type} [Lean.Grind.CommRing K] {f : Nat → Nat → K} {d : Nat} (hf : ∀ i j, d < i + j → f i j = 0) : ∀ n i j, n * d < i + j → kc_pw f n i j = 0
  | 0, i, j, h => if_neg (by omega)
  | n + 1, i, j, h => kc_zero (kc_pw_dg hf n) hf i j (by rw [Nat.succ_mul] at h; exact h)
end ZQb
