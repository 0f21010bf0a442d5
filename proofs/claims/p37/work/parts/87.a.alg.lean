section KA1
/-- the least one -/
theorem ka_min {P : Nat → Prop} (n : Nat) (h : P n) : ∃ m, P m ∧ ∀ k, k < m → ¬ P k := by
  induction n using Nat.strongRecOn with
  | _ n ih =>
    by_cases q : ∃ k, k < n ∧ P k
    · obtain ⟨k, hk, hP⟩ := q
      exact ih k hk hP
    · exact ⟨n, h, fun k hk hP => q ⟨k, hk, hP⟩⟩
def ka_s {K : Type} [Lean.Grind.CommRing K] (f : Nat → K) : Nat → K
  | 0 => 0
  | n + 1 => ka_s f n + f n
theorem ka_s_congr {K : Type} [Lean.Grind.CommRing K] {f g : Nat → K} : ∀ n, (∀ i, i < n → f i = g i) → ka_s f n = ka_s g n
  | 0, _ => rfl
  | n + 1, h => by
    show ka_s f n + f n = ka_s g n + g n
    rw [ka_s_congr n (fun i hi => h i (by omega)), h n (by omega)]
theorem ka_s_zero {K : Type} [Lean.Grind.CommRing K] {f : Nat → K} : ∀ n, (∀ i, i < n → f i = 0) → ka_s f n = 0
  | 0, _ => rfl
  | n + 1, h => by
    show ka_s f n + f n = 0
    rw [ka_s_zero n (fun i hi => h i (by omega)), h n (by omega)]
    grind
theorem ka_s_add {K : Type} [Lean.Grind.CommRing K] (f g : Nat → K) : ∀ n, ka_s (fun i => f i + g i) n = ka_s f n + ka_s g n
  | 0 => by show (0 : K) = 0 + 0; grind
  | n + 1 => by
    show ka_s (fun i => f i + g i) n + (f n + g n) = (ka_s f n + f n) + (ka_s g n + g n)
    rw [ka_s_add f g n]; grind
theorem ka_s_sub {K : Type} [Lean.Grind.CommRing K] (f g : Nat → K) : ∀ n, ka_s (fun i => f i - g i) n = ka_s f n - ka_s g n
  | 0 => by show (0 : K) = 0 - 0; grind
  | n + 1 => by
    show ka_s (fun i => f i - g i) n + (f n - g n) = (ka_s f n + f n) - (ka_s g n + g n)
    rw [ka_s_sub f g n]; grind
theorem ka_s_mul {K : Type} [Lean.Grind.CommRing K] (a : K) (f : Nat → K) : ∀ n, ka_s (fun i => a * f i) n = a * ka_s f n
  | 0 => by show (0 : K) = a * 0; grind
  | n + 1 => by
    show ka_s (fun i => a * f i) n + a * f n = a * (ka_s f n + f n)
    rw [ka_s_mul a f n]; grind
theorem ka_s_mulr {K : Type} [Lean.Grind.CommRing K] (a : K) (f : Nat → K) : ∀ n, ka_s (fun i => f i * a) n = ka_s f n * a
  | 0 => by show (0 : K) = 0 * a; grind
  | n + 1 => by
    show ka_s (fun i => f i * a) n + f n * a = (ka_s f n + f n) * a
    rw [ka_s_mulr a f n]; grind
theorem ka_s_one {K : Type} [Lean.Grind.CommRing K] {f : Nat → K} {k : Nat} : ∀ n, k < n → (∀ i, i < n → i ≠ k → f i = 0) → ka_s f n = f k
  | 0, h, _ => absurd h (Nat.not_lt_zero _)
  | n + 1, h, h0 => by
    show ka_s f n + f n = f k
    by_cases e : k = n
    · rw [ka_s_zero n (fun i hi => h0 i (by omega) (by omega)), e]; grind
    · rw [ka_s_one n (by omega) (fun i hi hk => h0 i (by omega) hk), h0 n (by omega) (by omega)]; grind
theorem ka_s_swap {K : Type} [Lean.Grind.CommRing K] (f : Nat → Nat → K) (m : Nat) : ∀ n, ka_s (fun i => ka_s (fun j => f i j) m) n = ka_s (fun j => ka_s (fun i => f i j) n) m
  | 0 => (ka_s_zero m (fun _ _ => rfl)).symm
  | n + 1 => by
    show ka_s (fun i => ka_s (fun j => f i j) m) n + ka_s (fun j => f n j) m = ka_s (fun j => ka_s (fun i => f i j) n + f n j) m
    rw [ka_s_swap f m n, ka_s_add]
theorem ka_s_front {K : Type} [Lean.Grind.CommRing K] (f : Nat → K) : ∀ n, ka_s f (n + 1) = f 0 + ka_s (fun i => f (i + 1)) n
  | 0 => by show (0 + f 0 : K) = f 0 + 0; grind
  | n + 1 => by
    show ka_s f (n + 1) + f (n + 1) = f 0 + (ka_s (fun i => f (i + 1)) n + f (n + 1))
    rw [ka_s_front f n]; grind
theorem ka_s_rev {K : Type} [Lean.Grind.CommRing K] (f : Nat → K) : ∀ n, ka_s f n = ka_s (fun i => f (n - 1 - i)) n
  | 0 => rfl
  | n + 1 => by
    rw [ka_s_front (fun i => f (n + 1 - 1 - i)) n]
    have e : (fun i => f (n + 1 - 1 - (i + 1))) = fun i => f (n - 1 - i) := funext fun i => by rw [show n + 1 - 1 - (i + 1) = n - 1 - i by omega]
    show ka_s f n + f n = f (n + 1 - 1 - 0) + ka_s (fun i => f (n + 1 - 1 - (i + 1))) n
    rw [e, ← ka_s_rev f n, show n + 1 - 1 - 0 = n by omega]; grind
theorem ka_s_tri {K : Type} [Lean.Grind.CommRing K] (F : Nat → Nat → K) : ∀ n, ka_s (fun a => ka_s (fun b => F a b) (a + 1)) n = ka_s (fun b => ka_s (fun c => F (b + c) b) (n - b)) n
  | 0 => rfl
  | n + 1 => by
    show ka_s (fun a => ka_s (fun b => F a b) (a + 1)) n + ka_s (fun b => F n b) (n + 1) = ka_s (fun b => ka_s (fun c => F (b + c) b) (n + 1 - b)) n + ka_s (fun c => F (n + c) n) (n + 1 - n)
    rw [ka_s_tri F n]
    have e1 : ka_s (fun b => ka_s (fun c => F (b + c) b) (n + 1 - b)) n = ka_s (fun b => ka_s (fun c => F (b + c) b) (n - b) + F n b) n := ka_s_congr n (fun b hb => by
      rw [show n + 1 - b = (n - b) + 1 by omega]
      show ka_s (fun c => F (b + c) b) (n - b) + F (b + (n - b)) b = _
      rw [show b + (n - b) = n by omega])
    rw [e1, ka_s_add, show n + 1 - n = 1 by omega]
    show ka_s (fun b => ka_s (fun c => F (b + c) b) (n - b)) n + (ka_s (fun b => F n b) n + F n n) = ka_s (fun b => ka_s (fun c => F (b + c) b) (n - b)) n + ka_s (fun b => F n b) n + (0 + F (n + 0) n)
    rw [Nat.add_zero]; grind
end KA1
section KA2
def ka_mul {A : Type} [Lean.Grind.CommRing A] (f g : Nat → A) : Nat → A := fun i => ka_s (fun a => f a * g (i - a)) (i + 1)
def ka_c {A : Type} [Lean.Grind.CommRing A] (x : A) : Nat → A := fun i => if i = 0 then x else 0
def ka_pow {A : Type} [Lean.Grind.CommRing A] (f : Nat → A) : Nat → (Nat → A)
  | 0 => ka_c 1
  | n + 1 => ka_mul (ka_pow f n) f
theorem ka_mul_comm {A : Type} [Lean.Grind.CommRing A] (f g : Nat → A) : ka_mul f g = ka_mul g f := funext fun i => by
  unfold ka_mul
  rw [ka_s_rev]
  exact ka_s_congr _ (fun a ha => by
    rw [show i - (i + 1 - 1 - a) = a by omega, show i + 1 - 1 - a = i - a by omega]; grind)
theorem ka_mul_assoc {A : Type} [Lean.Grind.CommRing A] (f g h : Nat → A) : ka_mul (ka_mul f g) h = ka_mul f (ka_mul g h) := funext fun i => by
  show ka_s (fun a => ka_s (fun b => f b * g (a - b)) (a + 1) * h (i - a)) (i + 1) = ka_s (fun b => f b * ka_s (fun c => g c * h (i - b - c)) (i - b + 1)) (i + 1)
  have e1 : ka_s (fun a => ka_s (fun b => f b * g (a - b)) (a + 1) * h (i - a)) (i + 1) = ka_s (fun a => ka_s (fun b => f b * g (a - b) * h (i - a)) (a + 1)) (i + 1) :=
    ka_s_congr _ (fun a _ => (ka_s_mulr (h (i - a)) (fun b => f b * g (a - b)) (a + 1)).symm)
  rw [e1, ka_s_tri (fun a b => f b * g (a - b) * h (i - a))]
  exact ka_s_congr _ (fun b hb => by
    rw [show i + 1 - b = i - b + 1 by omega, ← ka_s_mul]
    exact ka_s_congr _ (fun c hc => by
      rw [show b + c - b = c by omega, show i - (b + c) = i - b - c by omega]; grind))
theorem ka_c_mul {A : Type} [Lean.Grind.CommRing A] (x : A) (f : Nat → A) (i : Nat) : ka_mul (ka_c x) f i = x * f i := by
  unfold ka_mul
  rw [ka_s_one (k := 0) (i + 1) (by omega) (fun a ha h0 => by
    show (if a = 0 then x else 0) * f (i - a) = 0
    rw [if_neg h0]; grind)]
  show (if 0 = 0 then x else 0) * f (i - 0) = _
  rw [if_pos rfl, Nat.sub_zero]
theorem ka_c_0 {A : Type} [Lean.Grind.CommRing A] (x : A) : ka_c x 0 = x := if_pos rfl
theorem ka_c_s {A : Type} [Lean.Grind.CommRing A] (x : A) {i : Nat} (h : i ≠ 0) : ka_c x i = 0 := if_neg h
def ka_R {A : Type} [Lean.Grind.CommRing A] : Lean.Grind.CommRing (Nat → A) where
  add := fun f g i => f i + g i
  mul := ka_mul
  neg := fun f i => - f i
  sub := fun f g i => f i - g i
  natCast := ⟨fun n => ka_c (OfNat.ofNat n)⟩
  ofNat := fun n => ⟨ka_c (OfNat.ofNat n)⟩
  nsmul := ⟨fun n f => ka_mul (ka_c (OfNat.ofNat n)) f⟩
  npow := ⟨fun f n => ka_pow f n⟩
  intCast := ⟨fun z => ka_c (@IntCast.intCast A Lean.Grind.Ring.intCast z)⟩
  zsmul := ⟨fun z f => ka_mul (ka_c (@IntCast.intCast A Lean.Grind.Ring.intCast z)) f⟩
  add_zero := fun f => funext fun i => by
    show f i + (if i = 0 then 0 else 0) = f i
    split <;> grind
  add_comm := fun f g => funext fun i => by show f i + g i = g i + f i; grind
  add_assoc := fun f g h => funext fun i => by show f i + g i + h i = f i + (g i + h i); grind
  mul_assoc := ka_mul_assoc
  mul_comm := ka_mul_comm
  mul_one := fun f => by
    show ka_mul f (ka_c 1) = f
    rw [ka_mul_comm]
    exact funext fun i => by rw [ka_c_mul]; grind
  one_mul := fun f => funext fun i => by
    show ka_mul (ka_c 1) f i = f i
    rw [ka_c_mul]; grind
  mul_zero := fun f => funext fun i => by
    show ka_mul f (ka_c 0) i = (if i = 0 then 0 else 0)
    rw [ka_mul_comm, ka_c_mul]
    split <;> grind
  right_distrib := fun f g h => funext fun i => by
    show ka_s (fun a => (f a + g a) * h (i - a)) (i + 1) = ka_s (fun a => f a * h (i - a)) (i + 1) + ka_s (fun a => g a * h (i - a)) (i + 1)
    rw [← ka_s_add]
    exact ka_s_congr _ (fun a _ => by grind)
  left_distrib := fun f g h => funext fun i => by
    show ka_s (fun a => f a * (g (i - a) + h (i - a))) (i + 1) = ka_s (fun a => f a * g (i - a)) (i + 1) + ka_s (fun a => f a * h (i - a)) (i + 1)
    rw [← ka_s_add]
    exact ka_s_congr _ (fun a _ => by grind)
  zero_mul := fun f => funext fun i => by
    show ka_mul (ka_c 0) f i = (if i = 0 then 0 else 0)
    rw [ka_c_mul]
    split <;> grind
  pow_zero := fun _ => rfl
  pow_succ := fun _ _ => rfl
  ofNat_succ := fun n => funext fun i => by
    show (if i = 0 then OfNat.ofNat (n + 1) else 0 : A) = (if i = 0 then OfNat.ofNat n else 0) + (if i = 0 then OfNat.ofNat 1 else 0)
    by_cases h : i = 0
    · rw [if_pos h, if_pos h, if_pos h]; exact Lean.Grind.Semiring.ofNat_succ n
    · rw [if_neg h, if_neg h, if_neg h]; grind
  ofNat_eq_natCast := fun _ => rfl
  nsmul_eq_natCast_mul := fun _ _ => rfl
  neg_add_cancel := fun f => funext fun i => by
    show - f i + f i = (if i = 0 then 0 else 0)
    split <;> grind
  sub_eq_add_neg := fun f g => funext fun i => by show f i - g i = f i + - g i; grind
  neg_zsmul := fun z f => funext fun i => by
    show ka_mul (ka_c (@IntCast.intCast A Lean.Grind.Ring.intCast (-z))) f i = - ka_mul (ka_c (@IntCast.intCast A Lean.Grind.Ring.intCast z)) f i
    rw [ka_c_mul, ka_c_mul]
    have := Lean.Grind.Ring.intCast_neg (α := A) z
    show @Int.cast A Lean.Grind.Ring.intCast (-z) * f i = -(@Int.cast A Lean.Grind.Ring.intCast z * f i)
    rw [this]; grind
  zsmul_natCast_eq_nsmul := fun n f => funext fun i => by
    show ka_mul (ka_c (@IntCast.intCast A Lean.Grind.Ring.intCast (n : Int))) f i = ka_mul (ka_c (OfNat.ofNat n)) f i
    rw [ka_c_mul, ka_c_mul]
    have h1 := Lean.Grind.Ring.intCast_natCast (α := A) n
    have h2 := Lean.Grind.Semiring.ofNat_eq_natCast (α := A) n
    show @Int.cast A Lean.Grind.Ring.intCast (n : Int) * f i = _
    rw [h1, h2]
  intCast_ofNat := fun n => by
    show ka_c (@IntCast.intCast A Lean.Grind.Ring.intCast (OfNat.ofNat n)) = ka_c (OfNat.ofNat n)
    exact congrArg ka_c (Lean.Grind.Ring.intCast_ofNat (α := A) n)
  intCast_neg := fun z => funext fun i => by
    show (if i = 0 then @IntCast.intCast A Lean.Grind.Ring.intCast (-z) else 0) = - (if i = 0 then @IntCast.intCast A Lean.Grind.Ring.intCast z else 0)
    by_cases h : i = 0
    · rw [if_pos h, if_pos h]; exact Lean.Grind.Ring.intCast_neg (α := A) z
    · rw [if_neg h, if_neg h]; grind
end KA2
