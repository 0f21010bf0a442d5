section ZQc
/-- a POLYNOMIAL with other letters -/
def kc_sb {K : Type} [Lean.Grind.CommRing K] (P Q f : Nat → Nat → K) (n : Nat) : Nat → Nat → K := fun A B => ka_s (fun i => ka_s (fun j => f i j * kc_mul (kc_pw P i) (kc_pw Q j) A B) n) n
theorem kc_pw_R {K : Type} [Lean.Grind.CommRing K] (f : Nat → Nat → K) : ∀ n, kc_pw f n = @ka_pow (Nat → K) ka_R f n
  | 0 => funext fun i => funext fun j => by
    show (if i = 0 ∧ j = 0 then (1 : K) else 0) = @ka_c (Nat → K) ka_R (ka_c 1) i j
    unfold ka_c
    by_cases h : i = 0
    · rw [if_pos h]
      by_cases h2 : j = 0
      · rw [if_pos ⟨h, h2⟩, if_pos h2]
      · rw [if_neg (fun q => h2 q.2), if_neg h2]
    · rw [if_neg (fun q => h q.1), if_neg h]
      exact (ka_R0 j).symm
  | n + 1 => by
    show kc_mul (kc_pw f n) f = @ka_mul (Nat → K) ka_R (@ka_pow (Nat → K) ka_R f n) f
    rw [kc_mul_R, kc_pw_R f n]
theorem ka_s_ap2 {K : Type} [Lean.Grind.CommRing K] (F : Nat → Nat → Nat → K) (A B : Nat) (n : Nat) : @ka_s (Nat → Nat → K) (@ka_R (Nat → K) ka_R) F n A B = ka_s (fun a => F a A B) n := by
  rw [@ka_s_ap (Nat → K) ka_R F A n, ka_s_ap]
theorem kc_sb_e {K : Type} [Lean.Grind.CommRing K] (P Q f : Nat → Nat → K) (n : Nat) : kc_sb P Q f n = @kb_e (Nat → Nat → K) (@ka_R (Nat → K) ka_R) P Q (fun i j => kc_t (f i j) 0 0) n := funext fun A => funext fun B => by
  unfold kb_e
  rw [ka_s_ap2]
  refine ka_s_congr _ (fun i hi => ?_)
  show _ = @ka_mul (Nat → K) ka_R (@ka_s (Nat → Nat → K) (@ka_R (Nat → K) ka_R) (fun j => @ka_mul (Nat → K) ka_R (kc_t (f i j) 0 0) (@ka_pow (Nat → K) ka_R Q j)) n) (@ka_pow (Nat → K) ka_R P i) A B
  rw [← kc_mul_R, ← kc_pw_R]
  have e : ∀ m, kc_mul (@ka_s (Nat → Nat → K) (@ka_R (Nat → K) ka_R) (fun j => @ka_mul (Nat → K) ka_R (kc_t (f i j) 0 0) (@ka_pow (Nat → K) ka_R Q j)) m) (kc_pw P i) A B = ka_s (fun j => f i j * kc_mul (kc_pw P i) (kc_pw Q j) A B) m := fun m => by
    induction m with
    | zero =>
      show kc_mul _ (kc_pw P i) A B = 0
      refine ka_s_zero _ (fun a _ => ka_s_zero _ (fun b _ => ?_))
      have z : (@ka_s (Nat → Nat → K) (@ka_R (Nat → K) ka_R) (fun j => @ka_mul (Nat → K) ka_R (kc_t (f i j) 0 0) (@ka_pow (Nat → K) ka_R Q j)) 0) a b = 0 := ka_s_ap2 _ a b 0
      rw [z]; grind
    | succ m ih =>
      show kc_mul (fun a b => (@ka_s (Nat → Nat → K) (@ka_R (Nat → K) ka_R) (fun j => @ka_mul (Nat → K) ka_R (kc_t (f i j) 0 0) (@ka_pow (Nat → K) ka_R Q j)) m) a b + @ka_mul (Nat → K) ka_R (kc_t (f i m) 0 0) (@ka_pow (Nat → K) ka_R Q m) a b) (kc_pw P i) A B = ka_s (fun j => f i j * kc_mul (kc_pw P i) (kc_pw Q j) A B) m + f i m * kc_mul (kc_pw P i) (kc_pw Q m) A B
      rw [kc_mul_add]
      show kc_mul (@ka_s (Nat → Nat → K) (@ka_R (Nat → K) ka_R) (fun j => @ka_mul (Nat → K) ka_R (kc_t (f i j) 0 0) (@ka_pow (Nat → K) ka_R Q j)) m) (kc_pw P i) A B + kc_mul (@ka_mul (Nat → K) ka_R (kc_t (f i m) 0 0) (@ka_pow (Nat → K) ka_R Q m)) (kc_pw P i) A B = _
      rw [ih, ← kc_mul_R, ← kc_pw_R, kc_c_mul, kc_mul_c, kc_mul_comm (kc_pw Q m)]
  exact (e n).symm
theorem kc_sb_ext {K : Type} [Lean.Grind.CommRing K] {P Q f : Nat → Nat → K} {n N : Nat} (h : n ≤ N) (hf : ∀ i j, n ≤ i ∨ n ≤ j → f i j = 0) : kc_sb P Q f N = kc_sb P Q f n := funext fun A => funext fun B => by
  unfold kc_sb
  rw [ka_s_ext (m := n) N h (fun i h1 h2 => ka_s_zero _ (fun j _ => by rw [hf i j (Or.inl h1)]; grind))]
  refine ka_s_congr _ (fun i hi => ?_)
  rw [ka_s_ext (m := n) N h (fun j h1 h2 => by rw [hf i j (Or.inr h1)]; grind)]
theorem kc_sb_mul {K : Type} [Lean.Grind.CommRing K] {P Q f g : Nat → Nat → K} {n m : Nat} (hf : ∀ i j, n ≤ i ∨ n ≤ j → f i j = 0) (hg : ∀ i j, m ≤ i ∨ m ≤ j → g i j = 0) : kc_sb P Q (kc_mul f g) (n + m) = kc_mul (kc_sb P Q f n) (kc_sb P Q g m) := by
  have tz : (kc_t (0 : K) 0 0) = ((@ka_R (Nat → K) ka_R).toCommSemiring.toSemiring.ofNat 0).ofNat := funext fun i => funext fun j => by
    have e : (kc_t (0 : K) 0 0) i j = 0 := by unfold kc_t; split <;> rfl
    exact e.trans ((congrFun (@ka_R0 (Nat → K) ka_R i) j).trans (ka_R0 j)).symm
  have k := @kb_2 (Nat → Nat → K) (@ka_R (Nat → K) ka_R) (fun i j => kc_t (f i j) 0 0) (fun i j => kc_t (g i j) 0 0) n m P Q (fun i j hij => by
    show kc_t (f i j) 0 0 = _
    rw [hf i j hij]; exact tz) (fun i j hij => by
    show kc_t (g i j) 0 0 = _
    rw [hg i j hij]; exact tz)
  rw [kc_sb_e, kc_sb_e, kc_sb_e]
  refine Eq.trans ?_ (Eq.trans k (kc_mul_R _ _).symm)
  have e : (fun i j => kc_t (kc_mul f g i j) 0 0) = @kc_mul (Nat → Nat → K) (@ka_R (Nat → K) ka_R) (fun i j => kc_t (f i j) 0 0) (fun i j => kc_t (g i j) 0 0) := funext fun i => funext fun j => funext fun A => funext fun B => by
    unfold kc_mul
    rw [ka_s_ap2]
    show (if A = 0 ∧ B = 0 then ka_s (fun a => ka_s (fun b => f a b * g (i - a) (j - b)) (j + 1)) (i + 1) else 0) = _
    have e1 : ∀ a, @ka_s (Nat → Nat → K) (@ka_R (Nat → K) ka_R) (fun b => @ka_mul (Nat → K) ka_R (kc_t (f a b) 0 0) (kc_t (g (i - a) (j - b)) 0 0)) (j + 1) A B = if A = 0 ∧ B = 0 then ka_s (fun b => f a b * g (i - a) (j - b)) (j + 1) else 0 := fun a => by
      rw [ka_s_ap2]
      by_cases h : A = 0 ∧ B = 0
      · rw [if_pos h]
        refine ka_s_congr _ (fun b _ => ?_)
        rw [← kc_mul_R, kc_c_mul]
        show f a b * (if A = 0 ∧ B = 0 then g (i - a) (j - b) else 0) = _
        rw [if_pos h]
      · rw [if_neg h]
        refine ka_s_zero _ (fun b _ => ?_)
        rw [← kc_mul_R, kc_c_mul]
        show f a b * (if A = 0 ∧ B = 0 then g (i - a) (j - b) else 0) = _
        rw [if_neg h]; grind
    have e2 := ka_s_congr (f := fun a => @ka_s (Nat → Nat → K) (@ka_R (Nat → K) ka_R) (fun b => @ka_mul (Nat → K) ka_R (kc_t (f a b) 0 0) (kc_t (g (i - a) (j - b)) 0 0)) (j + 1) A B) (g := fun a => if A = 0 ∧ B = 0 then ka_s (fun b => f a b * g (i - a) (j - b)) (j + 1) else 0) (i + 1) (fun a _ => e1 a)
    refine Eq.trans ?_ e2.symm
    by_cases h : A = 0 ∧ B = 0
    · simp only [if_pos h]
    · simp only [if_neg h]
      exact (ka_s_zero _ (fun _ _ => rfl)).symm
  rw [e]
/-- sums, one after another -/
theorem kc_sb_lin {K : Type} [Lean.Grind.CommRing K] {P Q : Nat → Nat → K} (c : Nat → K) (F : Nat → Nat → Nat → K) (m n : Nat) : kc_sb P Q (fun i j => ka_s (fun t => c t * F t i j) m) n = fun A B => ka_s (fun t => c t * kc_sb P Q (F t) n A B) m := funext fun A => funext fun B => by
  unfold kc_sb
  have e1 : ∀ i j, ka_s (fun t => c t * F t i j) m * kc_mul (kc_pw P i) (kc_pw Q j) A B = ka_s (fun t => c t * (F t i j * kc_mul (kc_pw P i) (kc_pw Q j) A B)) m := fun i j => by
    rw [← ka_s_mulr]
    exact ka_s_congr _ (fun t _ => by grind)
  have e2 : ∀ i, ka_s (fun j => ka_s (fun t => c t * F t i j) m * kc_mul (kc_pw P i) (kc_pw Q j) A B) n = ka_s (fun t => c t * ka_s (fun j => F t i j * kc_mul (kc_pw P i) (kc_pw Q j) A B) n) m := fun i => by
    rw [ka_s_congr n (fun j _ => e1 i j), ka_s_swap]
    exact ka_s_congr _ (fun t _ => by rw [ka_s_mul])
  rw [ka_s_congr n (fun i _ => e2 i), ka_s_swap]
  exact ka_s_congr _ (fun t _ => by rw [ka_s_mul])
theorem kc_sb_t {K : Type} [Lean.Grind.CommRing K] {P Q : Nat → Nat → K} (c : K) {r u n : Nat} (hr : r < n) (hu : u < n) : kc_sb P Q (kc_t c r u) n = fun A B => c * kc_mul (kc_pw P r) (kc_pw Q u) A B := funext fun A => funext fun B => by
  unfold kc_sb
  rw [ka_s_one (k := r) n hr (fun i _ hne => ka_s_zero _ (fun j _ => by
    show (if i = r ∧ j = u then c else 0) * _ = 0
    rw [if_neg (fun q => hne q.1)]; grind)), ka_s_one (k := u) n hu (fun j _ hne => by
    show (if r = r ∧ j = u then c else 0) * _ = 0
    rw [if_neg (fun q => hne q.2)]; grind)]
  show (if r = r ∧ u = u then c else 0) * _ = _
  rw [if_pos ⟨rfl, rfl⟩]
/-- bounded: nothing from n on -/
def kc_lt {K : Type} [Lean.Grind.CommRing K] (n : Nat) (f : Nat → Nat → K) : Prop := ∀ i j, n ≤ i ∨ n ≤ j → f i j = 0
theorem kc_lt_t {K : Type} [Lean.Grind.CommRing K] {c : K} {r u n : Nat} (hr : r < n) (hu : u < n) : kc_lt n (kc_t c r u) := fun i j h => if_neg (by omega)
theorem kc_lt_mul {K : Type} [Lean.Grind.CommRing K] {f g : Nat → Nat → K} {n m : Nat} (hf : kc_lt n f) (hg : kc_lt m g) : kc_lt (n + m) (kc_mul f g) := fun i j h => ka_s_zero _ (fun a ha => ka_s_zero _ (fun b hb => by
  by_cases q : n ≤ a ∨ n ≤ b
  · rw [hf a b q]; grind
  · rw [hg (i - a) (j - b) (by omega)]; grind))
theorem kc_lt_mono {K : Type} [Lean.Grind.CommRing K] {f : Nat → Nat → K} {n m : Nat} (hf : kc_lt n f) (h : n ≤ m) : kc_lt m f := fun i j q => hf i j (by omega)
theorem kc_lt_pw {K : Type} [Lean.Grind.CommRing K] {f : Nat → Nat → K} {n : Nat} (hf : kc_lt n f) : ∀ k, kc_lt (k * n + 1) (kc_pw f k)
  | 0 => kc_lt_t (by omega) (by omega)
  | k + 1 => kc_lt_mono (kc_lt_mul (kc_lt_pw hf k) hf) (by rw [Nat.succ_mul]; omega)
theorem kc_sb_pw {K : Type} [Lean.Grind.CommRing K] {P Q f : Nat → Nat → K} {n : Nat} (hf : kc_lt n f) : ∀ k N, k * n + 1 ≤ N → n ≤ N → kc_sb P Q (kc_pw f k) N = kc_pw (kc_sb P Q f N) k
  | 0, N, h1, _ => by
    show kc_sb P Q (kc_t 1 0 0) N = kc_t 1 0 0
    rw [kc_sb_t _ (by omega) (by omega)]
    funext A B
    show 1 * kc_mul (kc_t 1 0 0) (kc_t 1 0 0) A B = _
    rw [kc_1_mul]; grind
  | k + 1, N, h1, h2 => by
    rw [Nat.succ_mul] at h1
    show kc_sb P Q (kc_mul (kc_pw f k) f) N = kc_mul (kc_pw (kc_sb P Q f N) k) (kc_sb P Q f N)
    rw [kc_sb_ext (n := (k * n + 1) + n) (by omega) (kc_lt_mul (kc_lt_pw hf k) hf), kc_sb_mul (kc_lt_pw hf k) hf, ← kc_sb_pw hf k N (by omega) h2, kc_sb_ext (n := k * n + 1) (N := N) (by omega) (kc_lt_pw hf k), kc_sb_ext (n := n) (N := N) h2 hf]
/-- once more other letters -/
theorem kc_sb_comp {K : Type} [Lean.Grind.CommRing K] {P Q X Y f : Nat → Nat → K} {n m N : Nat} (hX : kc_lt n X) (hY : kc_lt n Y) (hN : 2 * (m * n + 1) ≤ N) (hn : n ≤ N) : kc_sb P Q (kc_sb X Y f m) N = kc_sb (kc_sb P Q X N) (kc_sb P Q Y N) f m := by
  have e1 : kc_sb X Y f m = fun i j => ka_s (fun a => 1 * (fun a i j => ka_s (fun b => f a b * kc_mul (kc_pw X a) (kc_pw Y b) i j) m) a i j) m := funext fun i => funext fun j => ka_s_congr _ (fun a _ => by grind)
  rw [e1, kc_sb_lin (fun _ => 1) (fun a i j => ka_s (fun b => f a b * kc_mul (kc_pw X a) (kc_pw Y b) i j) m) m N]
  funext A B
  show ka_s (fun t => 1 * kc_sb P Q (fun i j => ka_s (fun b => f t b * kc_mul (kc_pw X t) (kc_pw Y b) i j) m) N A B) m = ka_s (fun i => ka_s (fun j => f i j * kc_mul (kc_pw (kc_sb P Q X N) i) (kc_pw (kc_sb P Q Y N) j) A B) m) m
  refine ka_s_congr _ (fun t ht => ?_)
  rw [kc_sb_lin (fun b => f t b) (fun b => kc_mul (kc_pw X t) (kc_pw Y b)) m N]
  have e2 : ∀ b, b < m → kc_sb P Q (kc_mul (kc_pw X t) (kc_pw Y b)) N = kc_mul (kc_pw (kc_sb P Q X N) t) (kc_pw (kc_sb P Q Y N) b) := fun b hb => by
    have l1 : t * n ≤ m * n := Nat.mul_le_mul_right n (by omega)
    have l2 : b * n ≤ m * n := Nat.mul_le_mul_right n (by omega)
    have s1 := kc_lt_pw hX t
    have s2 := kc_lt_pw hY b
    rw [kc_sb_ext (n := (t * n + 1) + (b * n + 1)) (by omega) (kc_lt_mul s1 s2), kc_sb_mul s1 s2, ← kc_sb_pw hX t N (by omega) hn, ← kc_sb_pw hY b N (by omega) hn, kc_sb_ext (n := t * n + 1) (N := N) (by omega) s1, kc_sb_ext (n := b * n + 1) (N := N) (by omega) s2]
  show 1 * ka_s (fun b => f t b * kc_sb P Q (kc_mul (kc_pw X t) (kc_pw Y b)) N A B) m = _
  have e3 : ka_s (fun b => f t b * kc_sb P Q (kc_mul (kc_pw X t) (kc_pw Y b)) N A B) m = ka_s (fun j => f t j * kc_mul (kc_pw (kc_sb P Q X N) t) (kc_pw (kc_sb P Q Y N) j) A B) m := ka_s_congr _ (fun b hb => by rw [e2 b hb])
  rw [e3]; grind
theorem kc_pw_t {K : Type} [Lean.Grind.CommRing K] (r u : Nat) : ∀ k, kc_pw (kc_t (1 : K) r u) k = kc_t 1 (k * r) (k * u)
  | 0 => by
    show kc_t 1 0 0 = kc_t 1 (0 * r) (0 * u)
    rw [Nat.zero_mul, Nat.zero_mul]
  | k + 1 => by
    show kc_mul (kc_pw (kc_t 1 r u) k) (kc_t 1 r u) = _
    rw [kc_pw_t r u k]
    funext i j
    rw [kc_t_mul, Nat.succ_mul, Nat.succ_mul]
    unfold kc_t
    by_cases h : k * r ≤ i ∧ k * u ≤ j
    · rw [if_pos h]
      by_cases h2 : i - k * r = r ∧ j - k * u = u
      · rw [if_pos h2, if_pos (by omega)]; grind
      · rw [if_neg h2, if_neg (by omega)]; grind
    · rw [if_neg h, if_neg (by omega)]
/-- the letters themselves -/
theorem kc_sb_id {K : Type} [Lean.Grind.CommRing K] {f : Nat → Nat → K} {n : Nat} (hf : kc_lt n f) : kc_sb (kc_t 1 1 0) (kc_t 1 0 1) f n = f := funext fun A => funext fun B => by
  unfold kc_sb
  have e : ∀ i j, f i j * kc_mul (kc_pw (kc_t 1 1 0) i) (kc_pw (kc_t 1 0 1) j) A B = if i = A ∧ j = B then f i j else 0 := fun i j => by
    rw [kc_pw_t, kc_pw_t, kc_t_mul, show i * 1 = i by omega, show i * 0 = 0 by omega, show j * 0 = 0 by omega, show j * 1 = j by omega]
    unfold kc_t
    by_cases h : i = A ∧ j = B
    · rw [if_pos h, if_pos (by omega), if_pos (by omega)]; grind
    · rw [if_neg h]
      by_cases h2 : i ≤ A ∧ 0 ≤ B
      · rw [if_pos h2, if_neg (by omega)]; grind
      · rw [if_neg h2]; grind
  by_cases h : A < n ∧ B < n
  · rw [ka_s_one (k := A) n h.1 (fun i _ hne => ka_s_zero _ (fun j _ => by rw [e, if_neg (fun q => hne q.1)])), ka_s_one (k := B) n h.2 (fun j _ hne => by rw [e, if_neg (fun q => hne q.2)]), e, if_pos ⟨rfl, rfl⟩]
  · rw [hf A B (by omega)]
    exact ka_s_zero _ (fun i hi => ka_s_zero _ (fun j hj => by rw [e, if_neg (by omega)]))
end ZQc
