section KA5
/-- a field -/
def ka_F (K : Type) [Lean.Grind.CommRing K] : Prop := (1 : K) ≠ 0 ∧ ∀ a : K, a ≠ 0 → ∃ b, a * b = 1
theorem ka_F.dom {K : Type} [Lean.Grind.CommRing K] (h : ka_F K) : ka_dom K := fun a b e => by
  by_cases q : a = 0
  · exact Or.inl q
  · obtain ⟨c, hc⟩ := h.2 a q
    right
    have e2 : b = (a * c) * b := by rw [hc]; grind
    rw [e2, show a * c * b = c * (a * b) by grind, e]; grind
theorem ka_dom_mul {A : Type} [Lean.Grind.CommRing A] (h : ka_dom A) {f g : Nat → A} (e : ∀ i, ka_mul f g i = 0) : (∀ i, f i = 0) ∨ ∀ i, g i = 0 := by
  refine Classical.byContradiction fun q => ?_
  have hf : ∃ i, f i ≠ 0 := Classical.byContradiction fun z => q (Or.inl fun i => Classical.byContradiction fun y => z ⟨i, y⟩)
  have hg : ∃ i, g i ≠ 0 := Classical.byContradiction fun z => q (Or.inr fun i => Classical.byContradiction fun y => z ⟨i, y⟩)
  obtain ⟨m0, hm0⟩ := hf
  obtain ⟨m, hm, hmm⟩ := ka_min (P := fun i => f i ≠ 0) m0 hm0
  obtain ⟨n0, hn0⟩ := hg
  obtain ⟨n, hn, hnm⟩ := ka_min (P := fun i => g i ≠ 0) n0 hn0
  have k := e (m + n)
  unfold ka_mul at k
  rw [ka_s_one (k := m) (m + n + 1) (by omega) (fun a ha hne => by
    by_cases q : a < m
    · rw [(Classical.byContradiction (hmm a q) : f a = 0)]; grind
    · rw [(Classical.byContradiction (hnm (m + n - a) (by omega)) : g (m + n - a) = 0)]; grind), show m + n - m = n by omega] at k
  rcases h _ _ k with q | q
  · exact hm q
  · exact hn q
theorem ka_R0 {A : Type} [Lean.Grind.CommRing A] (i : Nat) : ((ka_R (A := A)).toCommSemiring.toSemiring.ofNat 0).ofNat i = 0 := by
  show (if i = 0 then (0 : A) else 0) = 0
  split <;> rfl
/-- degrees below n -/
def ka_D {K : Type} [Lean.Grind.CommRing K] (n : Nat) (a : Nat → K) : Prop := ∀ i, n ≤ i → a i = 0
def ka_mo {K : Type} [Lean.Grind.CommRing K] (c : K) (k : Nat) : Nat → K := fun i => if i = k then c else 0
theorem ka_mo_mul {K : Type} [Lean.Grind.CommRing K] (c : K) (k : Nat) (b : Nat → K) (i : Nat) : ka_mul (ka_mo c k) b i = if k ≤ i then c * b (i - k) else 0 := by
  unfold ka_mul
  by_cases h : k ≤ i
  · rw [if_pos h, ka_s_one (k := k) (i + 1) (by omega) (fun a _ hne => by
      show (if a = k then c else 0) * b (i - a) = 0
      rw [if_neg hne]; grind)]
    show (if k = k then c else 0) * b (i - k) = _
    rw [if_pos rfl]
  · rw [if_neg h]
    exact ka_s_zero _ (fun a ha => by
      show (if a = k then c else 0) * b (i - a) = 0
      rw [if_neg (by omega)]; grind)
theorem ka_mul_top {K : Type} [Lean.Grind.CommRing K] {n k : Nat} {a b : Nat → K} (ha : ka_D (n + 1) a) (hb : ka_D (k + 1) b) : ka_mul a b (n + k) = a n * b k := by
  unfold ka_mul
  rw [ka_s_one (k := n) (n + k + 1) (by omega) (fun c hc hne => by
    by_cases q : n < c
    · rw [ha c (by omega)]; grind
    · rw [hb (n + k - c) (by omega)]; grind), show n + k - n = k by omega]
theorem ka_mul_D {K : Type} [Lean.Grind.CommRing K] {n m : Nat} {a b : Nat → K} (ha : ka_D (n + 1) a) (hb : ka_D (m + 1) b) : ka_D (n + m + 1) (ka_mul a b) := fun i hi => ka_s_zero _ (fun c hc => by
  by_cases q : n < c
  · rw [ha c (by omega)]; grind
  · rw [hb (i - c) (by omega)]; grind)
theorem ka_D_top {K : Type} [Lean.Grind.CommRing K] {n : Nat} {a : Nat → K} (h : ka_D (n + 1) a) (h' : ¬ ka_D n a) : a n ≠ 0 := fun e => h' (fun i hi => by
  by_cases q : i = n
  · rw [q]; exact e
  · exact h i (by omega))
theorem ka_D_div {K : Type} [Lean.Grind.CommRing K] {n : Nat} {b : Nat → K} {v : K} (hb : ka_D (n + 1) b) (hv : b n * v = 1) : ∀ N (a : Nat → K), ka_D N a → ∃ q r : Nat → K, (∃ M, ka_D M q) ∧ ka_D n r ∧ ∀ i, a i = ka_mul q b i + r i
  | 0, a, h => ⟨fun _ => 0, a, ⟨0, fun _ _ => rfl⟩, fun i _ => h i (by omega), fun i => by
    have : ka_mul (fun _ => 0) b i = 0 := ka_s_zero _ (fun c _ => by grind)
    rw [this]; grind⟩
  | N + 1, a, h => by
    by_cases hN : N + 1 ≤ n
    · exact ⟨fun _ => 0, a, ⟨0, fun _ _ => rfl⟩, fun i hi => h i (by omega), fun i => by
        have : ka_mul (fun _ => 0) b i = 0 := ka_s_zero _ (fun c _ => by grind)
        rw [this]; grind⟩
    · obtain ⟨q, r, ⟨M, hq⟩, hr, e⟩ := ka_D_div hb hv N (fun i => a i - ka_mul (ka_mo (a N * v) (N - n)) b i) (fun i hi => by
        show a i - ka_mul (ka_mo (a N * v) (N - n)) b i = 0
        rw [ka_mo_mul, if_pos (by omega)]
        by_cases ei : i = N
        · rw [ei, show N - (N - n) = n by omega]; grind
        · rw [h i (by omega), hb (i - (N - n)) (by omega)]; grind)
      refine ⟨fun i => q i + ka_mo (a N * v) (N - n) i, r, ⟨M + N + 1, fun i hi => ?_⟩, hr, fun i => ?_⟩
      · show q i + (if i = N - n then a N * v else 0) = 0
        rw [hq i (by omega), if_neg (by omega)]; grind
      · have e1 := e i
        have e2 : ka_mul (fun i => q i + ka_mo (a N * v) (N - n) i) b i = ka_mul q b i + ka_mul (ka_mo (a N * v) (N - n)) b i := by
          unfold ka_mul
          rw [← ka_s_add]
          exact ka_s_congr _ (fun c _ => by grind)
        rw [e2]
        have e3 : a i - ka_mul (ka_mo (a N * v) (N - n)) b i = ka_mul q b i + r i := e1
        grind
theorem ka_Eu_K {K : Type} [Lean.Grind.CommRing K] (h : ka_F K) : @ka_Eu (Nat → K) ka_R ka_D := by
  refine ⟨fun a => ⟨fun q => funext fun i => (q i (Nat.zero_le i)).trans (ka_R0 i).symm, fun q i _ => (congrFun q i).trans (ka_R0 i)⟩, fun n m a q hnm i hi => q i (by omega), fun n a b p q i hi => ?_, fun n m a b p q => ka_mul_D p q, fun n N a b p p' q r => ?_, fun n b p p' a q => ?_, fun a p p' => ?_, fun i hi => ?_⟩
  · show a i - b i = 0
    rw [p i hi, q i hi]; grind
  · obtain ⟨M0, hM0⟩ := q
    obtain ⟨M, hM, hk⟩ := ka_min (P := fun M => ka_D M b) M0 hM0
    by_cases hc : M ≤ N - n
    · exact fun i hi => hM i (by omega)
    · obtain ⟨k, rfl⟩ : ∃ k, M = k + 1 := ⟨M - 1, by omega⟩
      have e : ka_mul a b (n + k) = 0 := r (n + k) (by omega)
      rw [ka_mul_top p hM] at e
      rcases h.dom _ _ e with z | z
      · exact absurd z (ka_D_top p p')
      · exact absurd z (ka_D_top hM (hk k (by omega)))
  · obtain ⟨N, q⟩ := q
    obtain ⟨v, hv⟩ := h.2 (b n) (ka_D_top p p')
    obtain ⟨x, r, hx, hr, e⟩ := ka_D_div p hv N a q
    exact ⟨x, r, hx, hr, funext e⟩
  · have a0 : a 0 ≠ 0 := fun e => p' (funext fun i => by
      refine Eq.trans ?_ (ka_R0 i).symm
      by_cases z : i = 0
      · rw [z]; exact e
      · exact p i (by omega))
    obtain ⟨v, hv⟩ := h.2 _ a0
    refine ⟨ka_c v, fun i hi => ka_c_s v (by omega), funext fun i => ?_⟩
    show ka_mul a (ka_c v) i = (if i = 0 then 1 else 0)
    rw [ka_mul_comm, ka_c_mul]
    by_cases z : i = 0
    · rw [z, if_pos rfl, ← hv]; grind
    · rw [if_neg z, p i (by omega)]; grind
  · show (if i = 0 then (1 : K) else 0) = 0
    rw [if_neg (by omega)]
theorem ka_PR_K {K : Type} [Lean.Grind.CommRing K] : @ka_PR (Nat → K) (Nat → Nat → K) ka_R (@ka_R (Nat → K) ka_R) (fun f i => f i) (@ka_c (Nat → K) ka_R) (fun f => f) :=
  ⟨fun f g e => funext e, fun _ _ _ => rfl, fun _ _ _ => rfl, fun a f i => @ka_c_mul (Nat → K) ka_R a f i, fun _ _ => rfl⟩
theorem ka_s_ap {A : Type} [Lean.Grind.CommRing A] (F : Nat → Nat → A) (j : Nat) : ∀ n, @ka_s (Nat → A) ka_R F n j = ka_s (fun a => F a j) n
  | 0 => ka_R0 j
  | n + 1 => by
    show @ka_s (Nat → A) ka_R F n j + F n j = ka_s (fun a => F a j) n + F n j
    rw [ka_s_ap F j n]
end KA5
section KA6
/-- the product of two POLYNOMIALS in x and y -/
def kc_mul {K : Type} [Lean.Grind.CommRing K] (f g : Nat → Nat → K) : Nat → Nat → K := fun i j => ka_s (fun a => ka_s (fun b => f a b * g (i - a) (j - b)) (j + 1)) (i + 1)
theorem kc_mul_R {K : Type} [Lean.Grind.CommRing K] (f g : Nat → Nat → K) : kc_mul f g = @ka_mul (Nat → K) ka_R f g := funext fun i => funext fun j => by
  show _ = @ka_s (Nat → K) ka_R (fun a => ka_mul (f a) (g (i - a))) (i + 1) j
  rw [ka_s_ap]
  rfl
def kc_pl {K : Type} [Lean.Grind.CommRing K] (f : Nat → Nat → K) : Prop := ∃ N, ∀ i j, N ≤ i + j → f i j = 0
theorem kc_pl_iff {K : Type} [Lean.Grind.CommRing K] (f : Nat → Nat → K) : kc_pl f ↔ @ka_pl (Nat → K) (Nat → Nat → K) ka_D (fun f i => f i) (fun _ => 0) f := by
  constructor
  · intro ⟨N, h⟩
    exact ⟨N, fun i hi => funext fun j => h i j (by omega), fun i j hj => h i j (by omega)⟩
  · intro ⟨N, h1, h2⟩
    refine ⟨N + N, fun i j hij => ?_⟩
    by_cases q : N ≤ i
    · exact congrFun (h1 i q) j
    · exact h2 i j (by omega)
theorem kc_z {K : Type} [Lean.Grind.CommRing K] : (fun _ => 0 : Nat → K) = ((ka_R (A := K)).toCommSemiring.toSemiring.ofNat 0).ofNat := funext fun i => (ka_R0 i).symm
theorem kc_T1 {K : Type} [Lean.Grind.CommRing K] (hK : ka_F K) (f g : Nat → Nat → K) (pf : kc_pl f) (pg : kc_pl g) (hf : ∃ i j, f i j ≠ 0) (hg : ∃ i j, g i j ≠ 0) :
    ∃ u w h : Nat → Nat → K, kc_pl u ∧ kc_pl w ∧ kc_pl h ∧ (∃ i j, u i j ≠ 0) ∧ (∃ i j, w i j ≠ 0) ∧ f = kc_mul h w ∧ g = kc_mul h u ∧ ∀ u' w', kc_pl u' → kc_pl w' → kc_mul u' f = kc_mul w' g → ∃ c, kc_pl c ∧ u' = kc_mul c u ∧ w' = kc_mul c w := by
  have dA : @ka_dom (Nat → K) ka_R := fun a b e => by
    rcases ka_dom_mul hK.dom (f := a) (g := b) (fun i => (congrFun e i).trans (ka_R0 i)) with q | q
    · exact Or.inl (funext fun i => (q i).trans (ka_R0 i).symm)
    · exact Or.inr (funext fun i => (q i).trans (ka_R0 i).symm)
  have dB : @ka_dom (Nat → Nat → K) (@ka_R (Nat → K) ka_R) := fun a b e => by
    rcases @ka_dom_mul (Nat → K) ka_R dA a b (fun i => (congrFun e i).trans (@ka_R0 (Nat → K) ka_R i)) with q | q
    · exact Or.inl (funext fun i => (q i).trans (@ka_R0 (Nat → K) ka_R i).symm)
    · exact Or.inr (funext fun i => (q i).trans (@ka_R0 (Nat → K) ka_R i).symm)
  have nz : ∀ v : Nat → Nat → K, (∃ i j, v i j ≠ 0) ↔ v ≠ ((@ka_R (Nat → K) ka_R).toCommSemiring.toSemiring.ofNat 0).ofNat := fun v => by
    constructor
    · intro ⟨i, j, h⟩ e
      apply h
      rw [e]
      exact (congrFun (@ka_R0 (Nat → K) ka_R i) j).trans (ka_R0 j)
    · intro h
      refine Classical.byContradiction fun z => h (funext fun i => funext fun j => ?_)
      refine Eq.trans ?_ ((congrFun (@ka_R0 (Nat → K) ka_R i) j).trans (ka_R0 j)).symm
      exact Classical.byContradiction fun y => z ⟨i, j, y⟩
  have pz : ∀ v : Nat → Nat → K, kc_pl v ↔ @ka_pl (Nat → K) (Nat → Nat → K) ka_D (fun f i => f i) ((ka_R (A := K)).toCommSemiring.toSemiring.ofNat 0).ofNat v := fun v => by
    have e := kc_z (K := K)
    rw [kc_pl_iff, e]
  obtain ⟨u, w, h, pu, pw, ph, hu, hw, e1, e2, al⟩ := @ka_T1 (Nat → K) (Nat → Nat → K) ka_R (@ka_R (Nat → K) ka_R) dA dB ka_D (ka_Eu_K hK) (fun f i => f i) (@ka_c (Nat → K) ka_R) (fun f => f) ka_PR_K f g ((nz f).1 hf) ((nz g).1 hg) ((pz f).1 pf) ((pz g).1 pg)
  refine ⟨u, w, h, (pz u).2 pu, (pz w).2 pw, (pz h).2 ph, (nz u).2 hu, (nz w).2 hw, ?_, ?_, fun u' w' pu' pw' e => ?_⟩
  · rw [kc_mul_R]; exact e1
  · rw [kc_mul_R]; exact e2
  · rw [kc_mul_R, kc_mul_R] at e
    obtain ⟨c, pc, k1, k2⟩ := al u' w' ((pz u').1 pu') ((pz w').1 pw') e
    refine ⟨c, (pz c).2 pc, ?_, ?_⟩
    · rw [kc_mul_R]; exact k1
    · rw [kc_mul_R]; exact k2
end KA6
