section ZGm
def kl_e {K : Type} [Lean.Grind.CommRing K] (t : Nat) : Nat → K := fun k => if k = t then 1 else 0
theorem kl_e_sum {K : Type} [Lean.Grind.CommRing K] (a : Nat → K) (N k : Nat) : ka_s (fun t => a t * kl_e t k) N = if k < N then a k else 0 := by
  by_cases q : k < N
  · rw [if_pos q, ka_s_one (k := k) N q (fun t ht hne => by
      show a t * (if k = t then 1 else 0) = 0
      rw [if_neg (fun z => hne z.symm), ka_mz])]
    show a k * (if k = k then 1 else 0) = a k
    rw [if_pos rfl]
    exact Lean.Grind.Semiring.mul_one _
  · rw [if_neg q]
    exact ka_s_zero _ (fun t ht => by
      show a t * (if k = t then 1 else 0) = 0
      rw [if_neg (by omega), ka_mz])
theorem kl_dim_e {K : Type} [Lean.Grind.CommRing K] (N : Nat) : kl_dim (fun v : Nat → K => ∀ k, N ≤ k → v k = 0) N := by
  refine ⟨fun t => kl_e t, fun a ha t ht => ?_, fun t ht k hk => ?_, fun v hv => ⟨v, fun k => ?_⟩⟩
  · have := ha t
    rw [kl_e_sum, if_pos ht] at this
    exact this
  · show (if k = t then (1 : K) else 0) = 0
    rw [if_neg (by omega)]
  · rw [kl_e_sum]
    by_cases q : k < N
    · rw [if_pos q]
    · rw [if_neg q, hv k (by omega)]
/-- what N free numbers make one to one has dimension N -/
theorem kl_dim_iso {K J : Type} [Lean.Grind.CommRing K] {V : (J → K) → Prop} {N : Nat} (T : (Nat → K) → J → K) (hT : ∀ (c : Nat → K) (F : Nat → Nat → K) m, T (fun i => ka_s (fun t => c t * F t i) m) = fun j => ka_s (fun t => c t * T (F t) j) m) (h1 : ∀ v, (∀ k, N ≤ k → v k = 0) → V (T v)) (h2 : ∀ v, (∀ k, N ≤ k → v k = 0) → (∀ j, T v j = 0) → ∀ k, k < N → v k = 0) (h3 : ∀ w, V w → ∃ v, (∀ k, N ≤ k → v k = 0) ∧ T v = w) : kl_dim V N := by
  have ex : ∀ a : Nat → K, T (fun k => if k < N then a k else 0) = fun j => ka_s (fun t => a t * T (kl_e t) j) N := fun a => by
    rw [← hT a (fun t => kl_e t) N]
    exact congrArg T (funext fun k => (kl_e_sum a N k).symm)
  refine ⟨fun t => T (kl_e t), fun a ha t ht => ?_, fun t ht => h1 _ (fun k hk => ?_), fun w hw => ?_⟩
  · have z := h2 (fun k => if k < N then a k else 0) (fun k hk => if_neg (by omega)) (fun j => by rw [ex a]; exact ha j) t ht
    have z2 : (if t < N then a t else 0) = 0 := z
    rw [if_pos ht] at z2
    exact z2
  · show (if k = t then (1 : K) else 0) = 0
    rw [if_neg (by omega)]
  · obtain ⟨v, v1, v2⟩ := h3 w hw
    refine ⟨v, fun j => ?_⟩
    have e : v = fun k => if k < N then v k else 0 := funext fun k => by
      by_cases q : k < N
      · rw [if_pos q]
      · rw [if_neg q, v1 k (by omega)]
    have e2 := congrFun (ex v) j
    rw [← e, v2] at e2
    exact e2
theorem kUn_lin {K : Type} [Lean.Grind.CommRing K] (off N : Nat) (c : Nat → K) (F : Nat → Nat → K) (m : Nat) : kUn (fun i => ka_s (fun t => c t * F t i) m) off N = fun i j => ka_s (fun t => c t * kUn (F t) off N i j) m := funext fun i => funext fun j => by
  unfold kUn
  by_cases q : ncol i j < N
  · rw [if_pos q]
    exact ka_s_congr _ (fun t _ => by rw [if_pos q])
  · rw [if_neg q]
    exact (ka_s_zero _ (fun t _ => by rw [if_neg q, ka_mz])).symm
theorem kc_mul_sumL {K : Type} [Lean.Grind.CommRing K] (c : Nat → K) (F : Nat → Nat → Nat → K) (g : Nat → Nat → K) : ∀ m : Nat, kc_mul (fun i j => ka_s (fun t => c t * F t i j) m) g = fun i j => ka_s (fun t => c t * kc_mul (F t) g i j) m
  | 0 => funext fun i => funext fun j => kc_zmul g i j
  | m + 1 => by
    have ih := kc_mul_sumL c F g m
    have e := kc_mul_ac (fun i j => ka_s (fun t => c t * F t i j) m) (F m) g (c m)
    have e2 : kc_mul (fun i j => ka_s (fun t => c t * F t i j) (m + 1)) g = kc_mul (fun i j => ka_s (fun t => c t * F t i j) m + c m * F m i j) g := rfl
    rw [e2, e, ih]
    rfl
end ZGm
