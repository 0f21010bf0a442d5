section ZWe
theorem kl_dim_sub {K I : Type} [Lean.Grind.CommRing K] (hK : ka_F K) {U W : (I → K) → Prop} {s : Nat} (hU : kl_dim U s) (h : ∀ v, W v → U v) : ∃ n, n ≤ s ∧ kl_dim W n := by
  obtain ⟨y, y1, y2, y3⟩ := hU
  rcases kz_rk_or hK W (s + 1) with ⟨x, x1, x2⟩ | ⟨r, hr, x, x1, x2, x3⟩
  · have := kl_le hK x1 (fun t ht => y3 _ (h _ (x2 t ht)))
    omega
  · exact ⟨r, by omega, x, x1, x2, x3⟩
/-- closed under sums of multiples -/
def kl_cl {K I : Type} [Lean.Grind.CommRing K] (U : (I → K) → Prop) : Prop := ∀ (c : Nat → K) (F : Nat → I → K) m, (∀ t, t < m → U (F t)) → U (fun i => ka_s (fun t => c t * F t i) m)
def kl_ln {K I J : Type} [Lean.Grind.CommRing K] (T : (I → K) → J → K) : Prop := ∀ (c : Nat → K) (F : Nat → I → K) m, T (fun i => ka_s (fun t => c t * F t i) m) = fun j => ka_s (fun t => c t * T (F t) j) m
theorem kl_cl.z {K I : Type} [Lean.Grind.CommRing K] {U : (I → K) → Prop} (h : kl_cl U) : U (fun _ => 0) := h (fun _ => 0) (fun _ _ => 0) 0 (fun t ht => absurd ht (Nat.not_lt_zero _))
theorem kl_cl.s {K I : Type} [Lean.Grind.CommRing K] {U : (I → K) → Prop} (h : kl_cl U) {v w : I → K} (hv : U v) (hw : U w) (a b : K) : U (fun i => a * v i + b * w i) := by
  have q := h (fun t => if t = 0 then a else b) (fun t => if t = 0 then v else w) 2 (fun t ht => by
    show U (if t = 0 then v else w)
    split
    · exact hv
    · exact hw)
  have e : (fun i => ka_s (fun t => (if t = 0 then a else b) * (if t = 0 then v else w) i) 2) = fun i => a * v i + b * w i := funext fun i => by
    show (0 + a * v i) + b * w i = _
    rw [ka_za]
  rw [e] at q
  exact q
theorem kl_r_sub {K : Type} [Lean.Grind.CommRing K] (a b : K) : a - b = 1 * a + (-1) * b := by grind
theorem kl_cl.sub {K I : Type} [Lean.Grind.CommRing K] {U : (I → K) → Prop} (h : kl_cl U) (v w : I → K) (hv : U v) (hw : U w) : U (fun i => v i - w i) := by
  rw [show (fun i => v i - w i) = fun i => 1 * v i + (-1) * w i from funext fun i => kl_r_sub _ _]
  exact h.s hv hw 1 (-1)
theorem kl_ln.s {K I J : Type} [Lean.Grind.CommRing K] {T : (I → K) → J → K} (h : kl_ln T) (v w : I → K) (a b : K) : T (fun i => a * v i + b * w i) = fun j => a * T v j + b * T w j := by
  have q := h (fun t => if t = 0 then a else b) (fun t => if t = 0 then v else w) 2
  have e : (fun i => ka_s (fun t => (if t = 0 then a else b) * (if t = 0 then v else w) i) 2) = fun i => a * v i + b * w i := funext fun i => by
    show (0 + a * v i) + b * w i = _
    rw [ka_za]
  rw [e] at q
  rw [q]
  refine funext fun j => ?_
  show (0 + a * T v j) + b * T w j = _
  rw [ka_za]
theorem kl_ln.sub {K I J : Type} [Lean.Grind.CommRing K] {T : (I → K) → J → K} (h : kl_ln T) (v w : I → K) : T (fun i => v i - w i) = fun j => T v j - T w j := by
  rw [show (fun i => v i - w i) = fun i => 1 * v i + (-1) * w i from funext fun i => kl_r_sub _ _, h.s]
  exact funext fun j => (kl_r_sub _ _).symm
theorem kl_ln.z {K I J : Type} [Lean.Grind.CommRing K] {T : (I → K) → J → K} (h : kl_ln T) : T (fun _ => 0) = fun _ => 0 := h (fun _ => 0) (fun _ _ => 0) 0
theorem kl_rn2 {K I J : Type} [Lean.Grind.CommRing K] (hK : ka_F K) {U : (I → K) → Prop} (T : (I → K) → J → K) {s : Nat} (hT : kl_ln T) (hc : kl_cl U) (hU : kl_dim U s) : ∃ d r, d + r = s ∧ kl_dim (fun w => ∃ v, U v ∧ T v = w) d ∧ kl_dim (fun v => U v ∧ ∀ j, T v j = 0) r := by
  obtain ⟨r, _, hr⟩ := kl_dim_sub hK (W := fun v => U v ∧ ∀ j, T v j = 0) hU (fun v h => h.1)
  obtain ⟨x, x1, x2, x3⟩ := hU
  have himg : kl_dim (fun w => ∃ v, U v ∧ T v = w) s ∨ ∃ d, d < s ∧ kl_dim (fun w => ∃ v, U v ∧ T v = w) d := by
    have sp : ∀ w, (∃ v, U v ∧ T v = w) → kl_sp (fun t => T (x t)) s w := fun w ⟨v, hv, e⟩ => by
      obtain ⟨a, ha⟩ := x3 v hv
      refine ⟨a, fun j => ?_⟩
      rw [← e, show v = fun i => ka_s (fun t => a t * x t i) s from funext ha, hT]
    rcases kz_rk_or hK (fun w => ∃ v, U v ∧ T v = w) (s + 1) with ⟨z, z1, z2⟩ | ⟨d, hd, z, z1, z2, z3⟩
    · have := kl_le hK z1 (fun t ht => sp _ (z2 t ht))
      omega
    · by_cases q : d = s
      · exact Or.inl (q ▸ ⟨z, z1, z2, z3⟩)
      · exact Or.inr ⟨d, by omega, z, z1, z2, z3⟩
  have fin : ∀ d, kl_dim (fun w => ∃ v, U v ∧ T v = w) d → d + r = s := fun d hd => kl_rn hK (U := U) (W := fun w => ∃ v, U v ∧ T v = w) (V := fun v => U v ∧ ∀ j, T v j = 0) T hT ⟨x, x1, x2, x3⟩ hc (fun v w hv hw => hc.sub v w hv hw) hT.sub hr (fun v => Iff.rfl) hd (fun w => Iff.rfl)
  rcases himg with h | ⟨d, _, h⟩
  · exact ⟨s, r, fin s h, h, hr⟩
  · exact ⟨d, r, fin d h, h, hr⟩
theorem kl_dim_pair {K I J : Type} [Lean.Grind.CommRing K] {U : (I → K) → Prop} {V : (J → K) → Prop} {s r : Nat} (hU : kl_dim U s) (hV : kl_dim V r) (cU : kl_cl U) (cV : kl_cl V) : kl_dim (fun x : Sum I J → K => U (fun i => x (Sum.inl i)) ∧ V (fun j => x (Sum.inr j))) (s + r) := by
  obtain ⟨x, x1, x2, x3⟩ := hU
  obtain ⟨y, y1, y2, y3⟩ := hV
  obtain ⟨z, hz⟩ : ∃ z : Nat → Sum I J → K, z = fun t q => if t < s then Sum.elim (x t) (fun _ => 0) q else Sum.elim (fun _ => 0) (y (t - s)) q := ⟨_, rfl⟩
  have zl : ∀ (a : Nat → K) i, ka_s (fun t => a t * z t (Sum.inl i)) (s + r) = ka_s (fun t => a t * x t i) s := fun a i => by
    rw [ka_s_split, ka_s_congr (g := fun t => a t * x t i) s (fun t ht => by rw [hz]; show a t * (if t < s then x t i else 0) = _; rw [if_pos ht]), ka_s_zero r (fun t ht => by rw [hz]; show a (s + t) * (if s + t < s then x (s + t) i else 0) = 0; rw [if_neg (by omega), ka_mz]), ka_az]
  have zr : ∀ (a : Nat → K) j, ka_s (fun t => a t * z t (Sum.inr j)) (s + r) = ka_s (fun t => a (s + t) * y t j) r := fun a j => by
    rw [ka_s_split, ka_s_zero s (fun t ht => by rw [hz]; show a t * (if t < s then 0 else y (t - s) j) = 0; rw [if_pos ht, ka_mz]), ka_za]
    exact ka_s_congr _ (fun t ht => by rw [hz]; show a (s + t) * (if s + t < s then 0 else y (s + t - s) j) = _; rw [if_neg (by omega), show s + t - s = t by omega])
  refine ⟨z, fun a ha t ht => ?_, fun t ht => ?_, fun v hv => ?_⟩
  · by_cases q : t < s
    · exact x1 a (fun i => by rw [← zl]; exact ha _) t q
    · have := y1 (fun t => a (s + t)) (fun j => by rw [← zr]; exact ha _) (t - s) (by omega)
      have this : a (s + (t - s)) = 0 := this
      rwa [show s + (t - s) = t by omega] at this
  · by_cases q : t < s
    · refine ⟨?_, ?_⟩
      · rw [show (fun i => z t (Sum.inl i)) = x t from funext fun i => by rw [hz]; exact if_pos q]
        exact x2 t q
      · rw [show (fun j => z t (Sum.inr j)) = fun _ => 0 from funext fun i => by rw [hz]; exact if_pos q]
        exact cV.z
    · refine ⟨?_, ?_⟩
      · rw [show (fun i => z t (Sum.inl i)) = fun _ => 0 from funext fun i => by rw [hz]; exact if_neg q]
        exact cU.z
      · rw [show (fun j => z t (Sum.inr j)) = y (t - s) from funext fun i => by rw [hz]; exact if_neg q]
        exact y2 _ (by omega)
  · obtain ⟨a, ha⟩ := x3 _ hv.1
    obtain ⟨b, hb⟩ := y3 _ hv.2
    refine ⟨fun t => if t < s then a t else b (t - s), fun q => ?_⟩
    cases q with
    | inl i =>
      rw [zl, ka_s_congr (g := fun t => a t * x t i) s (fun t ht => by rw [if_pos ht])]
      exact ha i
    | inr j =>
      rw [zr, ka_s_congr (g := fun t => b t * y t j) r (fun t ht => by rw [if_neg (by omega), show s + t - s = t by omega])]
      exact hb j
theorem kl_r_n1 {K : Type} [Lean.Grind.CommRing K] (a b : K) (h : a + b = 0) : b = 0 * b + (-1) * a := by grind
theorem kl_r_n3 {K : Type} [Lean.Grind.CommRing K] (a b : K) (h : a + b = 0) : a = 0 * b + (-1) * b := by grind
theorem kl_r_n4 {K : Type} [Lean.Grind.CommRing K] (a : K) : a + (0 * a + (-1) * a) = 0 := by grind
theorem kl_r_m1 {K : Type} [Lean.Grind.CommRing K] (a b c : K) : a * (0 * b + (-1) * c) = (-1) * (a * c) := by grind
/-- what goes into a part: how many -/
theorem kl_pre {K I J : Type} [Lean.Grind.CommRing K] (hK : ka_F K) {U : (I → K) → Prop} {V Y : (J → K) → Prop} (T : (I → K) → J → K) {s r d : Nat} (hT : kl_ln T) (cU : kl_cl U) (cV : kl_cl V) (hU : kl_dim U s) (hV : kl_dim V r) (hY : kl_dim Y d) (on : ∀ y, Y y ↔ ∃ u v, U u ∧ V v ∧ y = fun j => T u j + v j) : ∃ n, n + d = s + r ∧ kl_dim (fun u => U u ∧ V (T u)) n := by
  have hP := kl_dim_pair hU hV cU cV
  have cP : kl_cl (fun x : Sum I J → K => U (fun i => x (Sum.inl i)) ∧ V (fun j => x (Sum.inr j))) := fun c F m h => ⟨cU c (fun t i => F t (Sum.inl i)) m (fun t ht => (h t ht).1), cV c (fun t j => F t (Sum.inr j)) m (fun t ht => (h t ht).2)⟩
  obtain ⟨T2, hT2⟩ : ∃ T2 : (Sum I J → K) → J → K, T2 = fun x j => T (fun i => x (Sum.inl i)) j + x (Sum.inr j) := ⟨_, rfl⟩
  have lT2 : kl_ln T2 := fun c F m => funext fun j => by
    rw [hT2]
    show T (fun i => ka_s (fun t => c t * F t (Sum.inl i)) m) j + ka_s (fun t => c t * F t (Sum.inr j)) m = ka_s (fun t => c t * (T (fun i => F t (Sum.inl i)) j + F t (Sum.inr j))) m
    rw [hT c (fun t i => F t (Sum.inl i)) m, ← ka_s_add]
    exact ka_s_congr _ (fun t _ => (Lean.Grind.Semiring.left_distrib _ _ _).symm)
  obtain ⟨d2, n, e, h1, x, x1, x2, x3⟩ := kl_rn2 hK T2 lT2 cP hP
  have ed : d2 = d := kl_dim_u hK h1 (kl_dim_iff hY (fun y => by
    rw [on, hT2]
    refine ⟨fun ⟨u, v, hu, hv, e⟩ => ⟨Sum.elim u v, ⟨hu, hv⟩, ?_⟩, fun ⟨x, hx, e⟩ => ⟨fun i => x (Sum.inl i), fun j => x (Sum.inr j), hx.1, hx.2, e.symm⟩⟩
    rw [e]
    rfl))
  refine ⟨n, by omega, fun t i => x t (Sum.inl i), fun a ha t ht => ?_, fun t ht => ?_, fun u hu => ?_⟩
  · refine x1 a (fun q => ?_) t ht
    cases q with
    | inl i => exact ha i
    | inr j =>
      have e2 : ∀ t, t < n → x t (Sum.inr j) = 0 * x t (Sum.inr j) + (-1) * T (fun i => x t (Sum.inl i)) j := fun t ht => by
        have := (x2 t ht).2 j
        rw [hT2] at this
        exact kl_r_n1 _ _ this
      have e3 := congrFun (hT a (fun t i => x t (Sum.inl i)) n) j
      rw [show (fun i => ka_s (fun t => a t * x t (Sum.inl i)) n) = fun _ => 0 from funext ha, hT.z] at e3
      have e4 : ka_s (fun t => a t * x t (Sum.inr j)) n = ka_s (fun t => (-1) * (a t * T (fun i => x t (Sum.inl i)) j)) n := ka_s_congr _ (fun t ht => by
        rw [e2 t ht]
        exact kl_r_m1 _ _ _)
      rw [e4, ka_s_mul, ← e3]
      exact ka_mz _
  · have h2 := x2 t ht
    refine ⟨h2.1.1, ?_⟩
    rw [show T (fun i => x t (Sum.inl i)) = fun j => 0 * x t (Sum.inr j) + (-1) * x t (Sum.inr j) from funext fun j => by
      have := h2.2 j
      rw [hT2] at this
      exact kl_r_n3 _ _ this]
    exact cV.s h2.1.2 h2.1.2 0 (-1)
  · obtain ⟨a, ha⟩ := x3 (Sum.elim u (fun j => 0 * T u j + (-1) * T u j)) ⟨⟨hu.1, cV.s hu.2 hu.2 0 (-1)⟩, fun j => by
      rw [hT2]
      exact kl_r_n4 _⟩
    exact ⟨a, fun i => ha (Sum.inl i)⟩
end ZWe
