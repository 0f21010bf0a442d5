section ZLo
theorem ka_rg4 {K : Type} [Lean.Grind.CommRing K] (a c s : K) : a * c * s = a * (c * s) := by grind
theorem ka_rg5 {K : Type} [Lean.Grind.CommRing K] (a b c x : K) : a * x + c * (b * x) = (a + c * b) * x := by grind
theorem ka_rg6 {K : Type} [Lean.Grind.CommRing K] (v a x : K) : -(v * a) * x = (-v) * (a * x) := by grind
theorem ka_rg7 {K : Type} [Lean.Grind.CommRing K] (s y v w : K) (h : s + y * w = 0) (hv : y * v = 1) : w = (-v) * s := by
  have e1 : s = -(y * w) := by grind
  rw [e1, show (-v) * -(y * w) = (y * v) * w by grind, hv]; grind
theorem ka_rg8 {K : Type} [Lean.Grind.CommRing K] (x s : K) (h : s + 0 * x = 0) : s = 0 := by grind
theorem ka_rg9 {K : Type} [Lean.Grind.CommRing K] (v s y : K) (h : v - s = y) : v = y + s := by grind
/-- made of the first n -/
def kl_sp {K I : Type} [Lean.Grind.CommRing K] (x : Nat → I → K) (n : Nat) (v : I → K) : Prop := ∃ a : Nat → K, ∀ i, v i = ka_s (fun t => a t * x t i) n
def kl_fr {K I : Type} [Lean.Grind.CommRing K] (x : Nat → I → K) (n : Nat) : Prop := ∀ a : Nat → K, (∀ i, ka_s (fun t => a t * x t i) n = 0) → ∀ t, t < n → a t = 0
/-- free ones that are made of others are not more -/
theorem kl_le {K I : Type} [Lean.Grind.CommRing K] (hK : ka_F K) {x y : Nat → I → K} {m n : Nat} (hx : kl_fr x m) (hy : ∀ t, t < m → kl_sp y n (x t)) : m ≤ n := by
  refine Classical.byContradiction fun h => ?_
  have hc : ∀ t, ∃ a : Nat → K, t < m → ∀ i, x t i = ka_s (fun s => a s * y s i) n := fun t => by
    by_cases q : t < m
    · obtain ⟨a, ha⟩ := hy t q
      exact ⟨a, fun _ => ha⟩
    · exact ⟨fun _ => 0, fun z => absurd z q⟩
  obtain ⟨a, ⟨t0, ht0, ha0⟩, ha⟩ := kl_hls hK n m (fun t s => Classical.choose (hc t) s) (by omega)
  refine ha0 (hx a (fun i => ?_) t0 ht0)
  have e1 : ka_s (fun t => a t * x t i) m = ka_s (fun t => ka_s (fun s => (a t * Classical.choose (hc t) s) * y s i) n) m := ka_s_congr _ (fun t ht => by
    rw [Classical.choose_spec (hc t) ht i, ← ka_s_mul]
    exact ka_s_congr _ (fun s _ => (ka_rg4 _ _ _).symm))
  rw [e1, ka_s_swap]
  refine ka_s_zero _ (fun s hs => ?_)
  rw [ka_s_mulr, ha s hs]; exact ka_zm _
/-- as many dimensions -/
def kl_dim {K I : Type} [Lean.Grind.CommRing K] (W : (I → K) → Prop) (n : Nat) : Prop := ∃ x : Nat → I → K, kl_fr x n ∧ (∀ t, t < n → W (x t)) ∧ ∀ v, W v → kl_sp x n v
theorem kl_dim_u {K I : Type} [Lean.Grind.CommRing K] (hK : ka_F K) {W : (I → K) → Prop} {n m : Nat} (h1 : kl_dim W n) (h2 : kl_dim W m) : n = m := by
  obtain ⟨x, x1, x2, x3⟩ := h1
  obtain ⟨y, y1, y2, y3⟩ := h2
  have a := kl_le hK x1 (fun t ht => y3 _ (x2 t ht))
  have b := kl_le hK y1 (fun t ht => x3 _ (y2 t ht))
  omega
theorem kl_sp_mono {K I : Type} [Lean.Grind.CommRing K] {x : Nat → I → K} {n m : Nat} {v : I → K} (h : kl_sp x n v) (hnm : n ≤ m) : kl_sp x m v := by
  obtain ⟨a, ha⟩ := h
  refine ⟨fun t => if t < n then a t else 0, fun i => ?_⟩
  rw [ka_s_ext (m := n) m hnm (fun t h1 h2 => by
    show (if t < n then a t else 0) * x t i = 0
    rw [if_neg (by omega)]; exact ka_zm _), ha]
  exact ka_s_congr _ (fun t ht => by
    show _ = (if t < n then a t else 0) * x t i
    rw [if_pos ht])
theorem kl_sp_own {K I : Type} [Lean.Grind.CommRing K] {x : Nat → I → K} {n t : Nat} (ht : t < n) : kl_sp x n (x t) := ⟨fun s => if s = t then 1 else 0, fun i => by
  rw [ka_s_one (k := t) n ht (fun s _ hne => by
    show (if s = t then 1 else 0) * x s i = 0
    rw [if_neg hne]; exact ka_zm _)]
  show x t i = (if t = t then 1 else 0) * x t i
  rw [if_pos rfl]; exact (ka_om _).symm⟩
theorem kl_sp_add {K I : Type} [Lean.Grind.CommRing K] {x : Nat → I → K} {n : Nat} {v w : I → K} (hv : kl_sp x n v) (hw : kl_sp x n w) (c : K) : kl_sp x n (fun i => v i + c * w i) := by
  obtain ⟨a, ha⟩ := hv
  obtain ⟨b, hb⟩ := hw
  refine ⟨fun t => a t + c * b t, fun i => ?_⟩
  show v i + c * w i = _
  rw [ha, hb, ← ka_s_mul, ← ka_s_add]
  exact ka_s_congr _ (fun t _ => ka_rg5 _ _ _ _)
theorem kl_sp_zero {K I : Type} [Lean.Grind.CommRing K] (x : Nat → I → K) (n : Nat) : kl_sp x n (fun _ => 0) := ⟨fun _ => 0, fun i => (ka_s_zero _ (fun t _ => ka_zm _)).symm⟩
/-- sums of what is made -/
theorem kl_sp_sum {K I : Type} [Lean.Grind.CommRing K] {x : Nat → I → K} {n : Nat} (c : Nat → K) (F : Nat → I → K) : ∀ m, (∀ t, t < m → kl_sp x n (F t)) → kl_sp x n (fun i => ka_s (fun t => c t * F t i) m)
  | 0, _ => kl_sp_zero x n
  | m + 1, h => kl_sp_add (kl_sp_sum c F m (fun t ht => h t (by omega))) (h m (by omega)) (c m)
theorem kl_sp_tr {K I : Type} [Lean.Grind.CommRing K] {x y : Nat → I → K} {n m : Nat} {v : I → K} (hv : kl_sp x n v) (hy : ∀ t, t < n → kl_sp y m (x t)) : kl_sp y m v := by
  obtain ⟨a, ha⟩ := hv
  have := kl_sp_sum (x := y) (n := m) a x n hy
  rw [show v = fun i => ka_s (fun t => a t * x t i) n from funext ha]
  exact this
/-- one free one more -/
theorem kl_fr_s {K I : Type} [Lean.Grind.CommRing K] (hK : ka_F K) {x : Nat → I → K} {n : Nat} (h : kl_fr x n) (hn : ¬ kl_sp x n (x n)) : kl_fr x (n + 1) := fun a ha t ht => by
  have an : a n = 0 := Classical.byContradiction fun z => by
    obtain ⟨v, hv⟩ := hK.2 _ z
    refine hn ⟨fun t => -(v * a t), fun i => ?_⟩
    have e : ka_s (fun t => a t * x t i) n + a n * x n i = 0 := ha i
    have e2 : ka_s (fun t => -(v * a t) * x t i) n = (-v) * ka_s (fun t => a t * x t i) n := by
      rw [← ka_s_mul]
      exact ka_s_congr _ (fun t _ => ka_rg6 _ _ _)
    rw [e2]
    exact ka_rg7 _ _ _ _ e hv
  by_cases e : t = n
  · rw [e]; exact an
  · refine h a (fun i => ?_) t (by omega)
    have e2 : ka_s (fun t => a t * x t i) n + a n * x n i = 0 := ha i
    rw [an] at e2
    exact ka_rg8 _ _ e2
/-- images and what goes to 0 -/
theorem kl_rn {K I J : Type} [Lean.Grind.CommRing K] (hK : ka_F K) {U : (I → K) → Prop} {W : (J → K) → Prop} {V : (I → K) → Prop} (T : (I → K) → J → K) {s r d : Nat}
    (hT : ∀ (c : Nat → K) (F : Nat → I → K) m, T (fun i => ka_s (fun t => c t * F t i) m) = fun j => ka_s (fun t => c t * T (F t) j) m)
    (hU : kl_dim U s) (hUc : ∀ (c : Nat → K) (F : Nat → I → K) m, (∀ t, t < m → U (F t)) → U (fun i => ka_s (fun t => c t * F t i) m)) (hUs : ∀ v w, U v → U w → U (fun i => v i - w i))
    (hTs : ∀ v w, T (fun i => v i - w i) = fun j => T v j - T w j)
    (hV : kl_dim V r) (hV1 : ∀ v, V v ↔ U v ∧ ∀ j, T v j = 0) (hW : kl_dim W d) (hW1 : ∀ w, W w ↔ ∃ v, U v ∧ T v = w) : d + r = s := by
  obtain ⟨y, y1, y2, y3⟩ := hV
  obtain ⟨w, w1, w2, w3⟩ := hW
  have hb : ∀ t, ∃ v, t < d → U v ∧ T v = w t := fun t => by
    by_cases q : t < d
    · obtain ⟨v, hv⟩ := (hW1 _).1 (w2 t q)
      exact ⟨v, fun _ => hv⟩
    · exact ⟨fun _ => 0, fun z => absurd z q⟩
  -- the ones that go to 0, then those that go to the others
  obtain ⟨z, hz⟩ : ∃ z : Nat → I → K, z = fun t => if t < r then y t else Classical.choose (hb (t - r)) := ⟨_, rfl⟩
  have za : ∀ t, t < r → z t = y t := fun t ht => by rw [hz]; exact if_pos ht
  have zb : ∀ t, t < d → U (z (r + t)) ∧ T (z (r + t)) = w t := fun t ht => by
    have e : z (r + t) = Classical.choose (hb t) := by
      rw [hz]
      show (if r + t < r then y (r + t) else Classical.choose (hb (r + t - r))) = _
      rw [if_neg (by omega), show r + t - r = t by omega]
    rw [e]
    exact Classical.choose_spec (hb t) ht
  have sumsplit : ∀ (g : Nat → K) (k : Nat), ka_s g (r + k) = ka_s g r + ka_s (fun t => g (r + t)) k := fun g k => by
    induction k with
    | zero => exact (ka_az _).symm
    | succ k ih =>
      show ka_s g (r + k) + g (r + k) = ka_s g r + (ka_s (fun t => g (r + t)) k + g (r + k))
      rw [ih]; exact Lean.Grind.Semiring.add_assoc _ _ _
  have zU : ∀ t, t < r + d → U (z t) := fun t ht => by
    by_cases q : t < r
    · rw [za t q]; exact ((hV1 _).1 (y2 t q)).1
    · have := (zb (t - r) (by omega)).1
      rwa [show r + (t - r) = t by omega] at this
  have zf : kl_fr z (r + d) := fun a ha t ht => by
    have e0 : T (fun i => ka_s (fun t => a t * z t i) (r + d)) = fun j => ka_s (fun t => a t * T (z t) j) (r + d) := hT a z (r + d)
    have e1 : (fun i => ka_s (fun t => a t * z t i) (r + d)) = fun _ => 0 := funext ha
    have tz : ∀ j, T (fun _ => 0) j = 0 := fun j => by
      have := congrFun (hT (fun _ => 0) (fun _ => fun _ => 0) 0) j
      exact this
    have aw : ∀ t, t < d → a (r + t) = 0 := w1 (fun t => a (r + t)) (fun j => by
      have e2 := congrFun e0 j
      rw [e1, tz j, sumsplit] at e2
      have e3 : ka_s (fun t => a t * T (z t) j) r = 0 := ka_s_zero _ (fun t ht => by
        rw [za t ht, ((hV1 _).1 (y2 t ht)).2 j]; exact ka_mz _)
      rw [e3] at e2
      have e4 : ka_s (fun t => a (r + t) * T (z (r + t)) j) d = ka_s (fun t => a (r + t) * w t j) d := ka_s_congr _ (fun t ht => by rw [(zb t ht).2])
      rw [e4] at e2
      rw [ka_za] at e2
      exact e2.symm)
    by_cases q : t < r
    · refine y1 a (fun i => ?_) t q
      have e2 := ha i
      rw [sumsplit] at e2
      rw [ka_s_zero (f := fun t => a (r + t) * z (r + t) i) d (fun t ht => by rw [aw t ht]; exact ka_zm _), ka_az] at e2
      rw [← e2]
      have e5 : ka_s (fun t => a t * z t i) r = ka_s (fun t => a t * y t i) r := ka_s_congr _ (fun t ht => by rw [za t ht])
      rw [e5]
    · have := aw (t - r) (by omega)
      rwa [show r + (t - r) = t by omega] at this
  have zs : ∀ v, U v → kl_sp z (r + d) v := fun v hv => by
    obtain ⟨c, hc⟩ := w3 (T v) ((hW1 _).2 ⟨v, hv, rfl⟩)
    have u1 : U (fun i => ka_s (fun t => c t * z (r + t) i) d) := hUc c (fun t => z (r + t)) d (fun t ht => (zb t ht).1)
    have v1 : V (fun i => v i - ka_s (fun t => c t * z (r + t) i) d) := (hV1 _).2 ⟨hUs _ _ hv u1, fun j => by
      rw [hTs v (fun i => ka_s (fun t => c t * z (r + t) i) d)]
      show T v j - T (fun i => ka_s (fun t => c t * z (r + t) i) d) j = 0
      rw [hT c (fun t => z (r + t)) d]
      show T v j - ka_s (fun t => c t * T (z (r + t)) j) d = 0
      rw [hc j, ka_s_congr (f := fun t => c t * T (z (r + t)) j) (g := fun t => c t * w t j) d (fun t ht => by rw [(zb t ht).2])]; exact ka_xx _⟩
    obtain ⟨a, ha⟩ := y3 _ v1
    refine ⟨fun t => if t < r then a t else c (t - r), fun i => ?_⟩
    rw [sumsplit]
    have e1 : ka_s (fun t => (if t < r then a t else c (t - r)) * z t i) r = ka_s (fun t => a t * y t i) r := ka_s_congr _ (fun t ht => by rw [if_pos ht, za t ht])
    have e2 : ka_s (fun t => (if r + t < r then a (r + t) else c (r + t - r)) * z (r + t) i) d = ka_s (fun t => c t * z (r + t) i) d := ka_s_congr _ (fun t ht => by rw [if_neg (by omega), show r + t - r = t by omega])
    have e3 := ha i
    show v i = ka_s (fun t => (if t < r then a t else c (t - r)) * z t i) r + ka_s (fun t => (if r + t < r then a (r + t) else c (r + t - r)) * z (r + t) i) d
    rw [e1, e2]
    exact ka_rg9 _ _ _ e3
  have := kl_dim_u hK (W := U) hU ⟨z, zf, zU, zs⟩
  omega
end ZLo
