section KA3
def ka_dom (A : Type) [Lean.Grind.CommRing A] : Prop := ∀ a b : A, a * b = 0 → a = 0 ∨ b = 0
/-- degrees below n, in a ring of POLYNOMIALS of one letter -/
def ka_Eu {A : Type} [Lean.Grind.CommRing A] (D : Nat → A → Prop) : Prop :=
  (∀ a, D 0 a ↔ a = 0) ∧ (∀ n m a, D n a → n ≤ m → D m a) ∧ (∀ n a b, D n a → D n b → D n (a - b)) ∧ (∀ n m a b, D (n + 1) a → D (m + 1) b → D (n + m + 1) (a * b)) ∧
  (∀ n N a b, D (n + 1) a → ¬ D n a → (∃ M, D M b) → D N (a * b) → D (N - n) b) ∧
  (∀ n b, D (n + 1) b → ¬ D n b → ∀ a, (∃ N, D N a) → ∃ q r, (∃ M, D M q) ∧ D n r ∧ a = q * b + r) ∧
  (∀ a, D 1 a → a ≠ 0 → ∃ b, D 1 b ∧ a * b = 1) ∧ D 1 1
theorem ka_Eu.z {A : Type} [Lean.Grind.CommRing A] {D : Nat → A → Prop} (h : ka_Eu D) (a : A) : D 0 a ↔ a = 0 := h.1 a
theorem ka_Eu.mo {A : Type} [Lean.Grind.CommRing A] {D : Nat → A → Prop} (h : ka_Eu D) {n m : Nat} {a : A} (h1 : D n a) (h2 : n ≤ m) : D m a := h.2.1 n m a h1 h2
theorem ka_Eu.sb {A : Type} [Lean.Grind.CommRing A] {D : Nat → A → Prop} (h : ka_Eu D) {n : Nat} {a b : A} (h1 : D n a) (h2 : D n b) : D n (a - b) := h.2.2.1 n a b h1 h2
theorem ka_Eu.ml {A : Type} [Lean.Grind.CommRing A] {D : Nat → A → Prop} (h : ka_Eu D) {n m : Nat} {a b : A} (h1 : D (n + 1) a) (h2 : D (m + 1) b) : D (n + m + 1) (a * b) := h.2.2.2.1 n m a b h1 h2
theorem ka_Eu.ex {A : Type} [Lean.Grind.CommRing A] {D : Nat → A → Prop} (h : ka_Eu D) {n N : Nat} {a b : A} (h1 : D (n + 1) a) (h2 : ¬ D n a) (h3 : ∃ M, D M b) (h4 : D N (a * b)) : D (N - n) b := h.2.2.2.2.1 n N a b h1 h2 h3 h4
theorem ka_Eu.dv {A : Type} [Lean.Grind.CommRing A] {D : Nat → A → Prop} (h : ka_Eu D) {n : Nat} {b : A} (h1 : D (n + 1) b) (h2 : ¬ D n b) (a : A) (h3 : ∃ N, D N a) : ∃ q r, (∃ M, D M q) ∧ D n r ∧ a = q * b + r := h.2.2.2.2.2.1 n b h1 h2 a h3
theorem ka_Eu.un {A : Type} [Lean.Grind.CommRing A] {D : Nat → A → Prop} (h : ka_Eu D) {a : A} (h1 : D 1 a) (h2 : a ≠ 0) : ∃ b, D 1 b ∧ a * b = 1 := h.2.2.2.2.2.2.1 a h1 h2
theorem ka_Eu.on {A : Type} [Lean.Grind.CommRing A] {D : Nat → A → Prop} (h : ka_Eu D) : D 1 1 := h.2.2.2.2.2.2.2
theorem ka_Eu.zz {A : Type} [Lean.Grind.CommRing A] {D : Nat → A → Prop} (h : ka_Eu D) (n : Nat) : D n 0 := h.mo ((h.z 0).2 rfl) (Nat.zero_le n)
theorem ka_Eu.ad {A : Type} [Lean.Grind.CommRing A] {D : Nat → A → Prop} (h : ka_Eu D) {n : Nat} {a b : A} (h1 : D n a) (h2 : D n b) : D n (a + b) := by
  have e : a + b = a - (0 - b) := by grind
  rw [e]
  exact h.sb h1 (h.sb (h.zz n) h2)
theorem ka_Eu.mw {A : Type} [Lean.Grind.CommRing A] {D : Nat → A → Prop} (h : ka_Eu D) {n m : Nat} {a b : A} (h1 : D n a) (h2 : D m b) : D (n + m + 1) (a * b) := h.ml (h.mo h1 (by omega)) (h.mo h2 (by omega))
/-- being one of them -/
def ka_po {A : Type} (D : Nat → A → Prop) (a : A) : Prop := ∃ N, D N a
theorem ka_Eu.pm {A : Type} [Lean.Grind.CommRing A] {D : Nat → A → Prop} (h : ka_Eu D) {a b : A} (h1 : ka_po D a) (h2 : ka_po D b) : ka_po D (a * b) := by
  obtain ⟨n, h1⟩ := h1
  obtain ⟨m, h2⟩ := h2
  exact ⟨_, h.mw h1 h2⟩
theorem ka_Eu.pa {A : Type} [Lean.Grind.CommRing A] {D : Nat → A → Prop} (h : ka_Eu D) {a b : A} (h1 : ka_po D a) (h2 : ka_po D b) : ka_po D (a + b) := by
  obtain ⟨n, h1⟩ := h1
  obtain ⟨m, h2⟩ := h2
  exact ⟨n + m, h.ad (h.mo h1 (by omega)) (h.mo h2 (by omega))⟩
theorem ka_Eu.ps {A : Type} [Lean.Grind.CommRing A] {D : Nat → A → Prop} (h : ka_Eu D) {a b : A} (h1 : ka_po D a) (h2 : ka_po D b) : ka_po D (a - b) := by
  obtain ⟨n, h1⟩ := h1
  obtain ⟨m, h2⟩ := h2
  exact ⟨n + m, h.sb (h.mo h1 (by omega)) (h.mo h2 (by omega))⟩
theorem ka_Eu.p0 {A : Type} [Lean.Grind.CommRing A] {D : Nat → A → Prop} (h : ka_Eu D) : ka_po D (0 : A) := ⟨0, h.zz 0⟩
theorem ka_Eu.p1 {A : Type} [Lean.Grind.CommRing A] {D : Nat → A → Prop} (h : ka_Eu D) : ka_po D (1 : A) := ⟨1, h.on⟩
theorem ka_Eu.ed {A : Type} [Lean.Grind.CommRing A] {D : Nat → A → Prop} (h : ka_Eu D) {a : A} (h1 : ka_po D a) (h2 : a ≠ 0) : ∃ n, D (n + 1) a ∧ ¬ D n a := by
  obtain ⟨N, h1⟩ := h1
  obtain ⟨m, hm, hk⟩ := ka_min (P := fun n => D n a) N h1
  cases m with
  | zero => exact absurd ((h.z a).1 hm) h2
  | succ m => exact ⟨m, hm, hk m (by omega)⟩
/-- B is a ring of POLYNOMIALS over A -/
def ka_PR {A B : Type} [Lean.Grind.CommRing A] [Lean.Grind.CommRing B] (co : B → Nat → A) (C : A → B) (mk : (Nat → A) → B) : Prop :=
  (∀ f g, (∀ i, co f i = co g i) → f = g) ∧ (∀ f g i, co (f - g) i = co f i - co g i) ∧ (∀ f g i, co (f * g) i = ka_s (fun a => co f a * co g (i - a)) (i + 1)) ∧ (∀ a f i, co (C a * f) i = a * co f i) ∧ ∀ h i, co (mk h) i = h i
theorem ka_PR.xt {A B : Type} [Lean.Grind.CommRing A] [Lean.Grind.CommRing B] {co : B → Nat → A} {C : A → B} {mk : (Nat → A) → B} (h : ka_PR co C mk) {f g : B} (e : ∀ i, co f i = co g i) : f = g := h.1 f g e
theorem ka_PR.sb {A B : Type} [Lean.Grind.CommRing A] [Lean.Grind.CommRing B] {co : B → Nat → A} {C : A → B} {mk : (Nat → A) → B} (h : ka_PR co C mk) (f g : B) (i : Nat) : co (f - g) i = co f i - co g i := h.2.1 f g i
theorem ka_PR.ml {A B : Type} [Lean.Grind.CommRing A] [Lean.Grind.CommRing B] {co : B → Nat → A} {C : A → B} {mk : (Nat → A) → B} (h : ka_PR co C mk) (f g : B) (i : Nat) : co (f * g) i = ka_s (fun a => co f a * co g (i - a)) (i + 1) := h.2.2.1 f g i
theorem ka_PR.c {A B : Type} [Lean.Grind.CommRing A] [Lean.Grind.CommRing B] {co : B → Nat → A} {C : A → B} {mk : (Nat → A) → B} (h : ka_PR co C mk) (a : A) (f : B) (i : Nat) : co (C a * f) i = a * co f i := h.2.2.2.1 a f i
theorem ka_PR.mk {A B : Type} [Lean.Grind.CommRing A] [Lean.Grind.CommRing B] {co : B → Nat → A} {C : A → B} {mk : (Nat → A) → B} (h : ka_PR co C mk) (f : Nat → A) (i : Nat) : co (mk f) i = f i := h.2.2.2.2 f i
theorem ka_PR.zz {A B : Type} [Lean.Grind.CommRing A] [Lean.Grind.CommRing B] {co : B → Nat → A} {C : A → B} {mk : (Nat → A) → B} (h : ka_PR co C mk) (i : Nat) : co (0 : B) i = 0 := by
  have e : (0 : B) = 0 - 0 := by grind
  rw [e, h.sb]; grind
theorem ka_PR.ad {A B : Type} [Lean.Grind.CommRing A] [Lean.Grind.CommRing B] {co : B → Nat → A} {C : A → B} {mk : (Nat → A) → B} (h : ka_PR co C mk) (f g : B) (i : Nat) : co (f + g) i = co f i + co g i := by
  have e : f + g = f - (0 - g) := by grind
  rw [e, h.sb, h.sb, h.zz]; grind
theorem ka_PR.n0 {A B : Type} [Lean.Grind.CommRing A] [Lean.Grind.CommRing B] {co : B → Nat → A} {C : A → B} {mk : (Nat → A) → B} (h : ka_PR co C mk) {f : B} (h0 : f ≠ 0) : ∃ i, co f i ≠ 0 := by
  refine Classical.byContradiction fun q => h0 (h.xt (fun i => ?_))
  rw [h.zz]
  exact Classical.byContradiction fun e => q ⟨i, e⟩
theorem ka_PR.cc {A B : Type} [Lean.Grind.CommRing A] [Lean.Grind.CommRing B] {co : B → Nat → A} {C : A → B} {mk : (Nat → A) → B} (h : ka_PR co C mk) (a b : A) (f : B) : C (a * b) * f = C a * (C b * f) := h.xt (fun i => by
  rw [h.c, h.c, h.c]; grind)
theorem ka_PR.c1 {A B : Type} [Lean.Grind.CommRing A] [Lean.Grind.CommRing B] {co : B → Nat → A} {C : A → B} {mk : (Nat → A) → B} (h : ka_PR co C mk) (f : B) : C 1 * f = f := h.xt (fun i => by
  rw [h.c]; grind)
theorem ka_PR.cn {A B : Type} [Lean.Grind.CommRing A] [Lean.Grind.CommRing B] {co : B → Nat → A} {C : A → B} {mk : (Nat → A) → B} (h : ka_PR co C mk) (dA : ka_dom A) {a : A} {f g : B} (ha : a ≠ 0) (e : C a * f = C a * g) : f = g := h.xt (fun i => by
  have e1 : a * (co f i - co g i) = 0 := by
    have := congrArg (fun x => co x i) e
    simp only [h.c] at this
    grind
  rcases dA _ _ e1 with q | q
  · exact absurd q ha
  · grind)
def ka_pl {A B : Type} (D : Nat → A → Prop) (co : B → Nat → A) (zr : A) (f : B) : Prop := ∃ N, (∀ i, N ≤ i → co f i = zr) ∧ ∀ i, D N (co f i)
theorem ka_s_D {A : Type} [Lean.Grind.CommRing A] {D : Nat → A → Prop} (h : ka_Eu D) {n : Nat} {f : Nat → A} : ∀ k, (∀ i, i < k → D n (f i)) → D n (ka_s f k)
  | 0, _ => h.zz n
  | k + 1, q => h.ad (ka_s_D h k (fun i hi => q i (by omega))) (q k (by omega))
theorem ka_pl_sub {A B : Type} [Lean.Grind.CommRing A] [Lean.Grind.CommRing B] {co : B → Nat → A} {C : A → B} {mk : (Nat → A) → B} (h : ka_PR co C mk) {D : Nat → A → Prop} (hD : ka_Eu D) {f g : B} (hf : ka_pl D co 0 f) (hg : ka_pl D co 0 g) : ka_pl D co 0 (f - g) := by
  obtain ⟨n, f1, f2⟩ := hf
  obtain ⟨m, g1, g2⟩ := hg
  refine ⟨n + m, fun i hi => ?_, fun i => ?_⟩
  · rw [h.sb, f1 i (by omega), g1 i (by omega)]; grind
  · rw [h.sb]; exact hD.sb (hD.mo (f2 i) (by omega)) (hD.mo (g2 i) (by omega))
theorem ka_pl_add {A B : Type} [Lean.Grind.CommRing A] [Lean.Grind.CommRing B] {co : B → Nat → A} {C : A → B} {mk : (Nat → A) → B} (h : ka_PR co C mk) {D : Nat → A → Prop} (hD : ka_Eu D) {f g : B} (hf : ka_pl D co 0 f) (hg : ka_pl D co 0 g) : ka_pl D co 0 (f + g) := by
  obtain ⟨n, f1, f2⟩ := hf
  obtain ⟨m, g1, g2⟩ := hg
  refine ⟨n + m, fun i hi => ?_, fun i => ?_⟩
  · rw [h.ad, f1 i (by omega), g1 i (by omega)]; grind
  · rw [h.ad]; exact hD.ad (hD.mo (f2 i) (by omega)) (hD.mo (g2 i) (by omega))
theorem ka_pl_mul {A B : Type} [Lean.Grind.CommRing A] [Lean.Grind.CommRing B] {co : B → Nat → A} {C : A → B} {mk : (Nat → A) → B} (h : ka_PR co C mk) {D : Nat → A → Prop} (hD : ka_Eu D) {f g : B} (hf : ka_pl D co 0 f) (hg : ka_pl D co 0 g) : ka_pl D co 0 (f * g) := by
  obtain ⟨n, f1, f2⟩ := hf
  obtain ⟨m, g1, g2⟩ := hg
  refine ⟨n + m + 1, fun i hi => ?_, fun i => ?_⟩
  · rw [h.ml]
    refine ka_s_zero _ (fun a ha => ?_)
    by_cases q : n ≤ a
    · rw [f1 a q]; grind
    · rw [g1 (i - a) (by omega)]; grind
  · rw [h.ml]
    exact ka_s_D hD _ (fun a ha => hD.mw (f2 a) (g2 _))
theorem ka_pl_c {A B : Type} [Lean.Grind.CommRing A] [Lean.Grind.CommRing B] {co : B → Nat → A} {C : A → B} {mk : (Nat → A) → B} (h : ka_PR co C mk) {D : Nat → A → Prop} (hD : ka_Eu D) {a : A} {f : B} (ha : ka_po D a) (hf : ka_pl D co 0 f) : ka_pl D co 0 (C a * f) := by
  obtain ⟨m, ha⟩ := ha
  obtain ⟨n, f1, f2⟩ := hf
  refine ⟨n + m + 1, fun i hi => ?_, fun i => ?_⟩
  · rw [h.c, f1 i (by omega)]; grind
  · rw [h.c]; exact hD.mo (hD.mw ha (f2 i)) (by omega)
theorem ka_pl_0 {A B : Type} [Lean.Grind.CommRing A] [Lean.Grind.CommRing B] {co : B → Nat → A} {C : A → B} {mk : (Nat → A) → B} (h : ka_PR co C mk) {D : Nat → A → Prop} (hD : ka_Eu D) : ka_pl D co 0 (0 : B) := ⟨0, fun i _ => h.zz i, fun i => by rw [h.zz]; exact hD.zz 0⟩
theorem ka_pl_po {A B : Type} {co : B → Nat → A} {z : A} {D : Nat → A → Prop} {f : B} (hf : ka_pl D co z f) (i : Nat) : ka_po D (co f i) := by
  obtain ⟨n, f1, f2⟩ := hf
  exact ⟨n, f2 i⟩
/-- all but one of a sum can be divided -/
theorem ka_s_dv {A : Type} [Lean.Grind.CommRing A] {D : Nat → A → Prop} (h : ka_Eu D) {a : A} {F : Nat → A} {j : Nat} : ∀ k, (∀ i, i < k → i ≠ j → ∃ q, ka_po D q ∧ F i = a * q) → ∃ q, ka_po D q ∧ ka_s F k = (if j < k then F j else 0) + a * q
  | 0, _ => ⟨0, h.p0, by
    show (0 : A) = (if j < 0 then F j else 0) + a * 0
    rw [if_neg (by omega)]; grind⟩
  | k + 1, hq => by
    obtain ⟨q, q1, q2⟩ := ka_s_dv h k (fun i hi hj => hq i (by omega) hj)
    by_cases e : k = j
    · refine ⟨q, q1, ?_⟩
      show ka_s F k + F k = _
      rw [q2, if_neg (by omega), if_pos (by omega), e]; grind
    · obtain ⟨r, r1, r2⟩ := hq k (by omega) e
      refine ⟨q + r, h.pa q1 r1, ?_⟩
      show ka_s F k + F k = _
      rw [q2, r2]
      by_cases e2 : j < k
      · rw [if_pos e2, if_pos (by omega)]; grind
      · rw [if_neg e2, if_neg (by omega)]; grind
end KA3
section KA4
/-- the POLYNOMIALS of two letters that make one alike of two others are the multiples of one couple -/
theorem ka_T1 {A B : Type} [Lean.Grind.CommRing A] [Lean.Grind.CommRing B] (dA : ka_dom A) (dB : ka_dom B) {D : Nat → A → Prop} (hD : ka_Eu D) {co : B → Nat → A} {C : A → B} {mk : (Nat → A) → B} (hB : ka_PR co C mk) (f g : B) (hf : f ≠ 0) (hg : g ≠ 0) (pf : ka_pl D co 0 f) (pg : ka_pl D co 0 g) :
    ∃ u w h : B, ka_pl D co 0 u ∧ ka_pl D co 0 w ∧ ka_pl D co 0 h ∧ u ≠ 0 ∧ w ≠ 0 ∧ f = h * w ∧ g = h * u ∧ ∀ u' w', ka_pl D co 0 u' → ka_pl D co 0 w' → u' * f = w' * g → ∃ c, ka_pl D co 0 c ∧ u' = c * u ∧ w' = c * w := by
  have h10 : ∀ x : A, x ≠ 0 → (1 : A) ≠ 0 := fun x hx e => hx (by
    have : x = x * 1 := by grind
    rw [this, e]; grind)
  obtain ⟨N0, g1, g2⟩ := id pg
  obtain ⟨m, hm, hmin⟩ := ka_min (P := fun n => ∃ u w, ka_pl D co 0 u ∧ ka_pl D co 0 w ∧ u ≠ 0 ∧ u * f = w * g ∧ ∀ i, n ≤ i → co u i = 0) N0 ⟨g, f, pg, pf, hg, by grind, g1⟩
  have hE0 : ∃ e, ∃ u w, ka_pl D co 0 u ∧ ka_pl D co 0 w ∧ u ≠ 0 ∧ u * f = w * g ∧ (∀ i, m ≤ i → co u i = 0) ∧ ∀ i, D e (co u i) := by
    obtain ⟨u, w, pu, pw, u0, e, um⟩ := hm
    obtain ⟨n, _, p2⟩ := id pu
    exact ⟨n, u, w, pu, pw, u0, e, um, p2⟩
  obtain ⟨E0, hE0⟩ := hE0
  obtain ⟨E, hE, hEmin⟩ := ka_min (P := fun e => ∃ u w, ka_pl D co 0 u ∧ ka_pl D co 0 w ∧ u ≠ 0 ∧ u * f = w * g ∧ (∀ i, m ≤ i → co u i = 0) ∧ ∀ i, D e (co u i)) E0 hE0
  obtain ⟨u, w, pu, pw, u0, huw, um, uE⟩ := hE
  have hm1 : 1 ≤ m := by
    refine Classical.byContradiction fun q => ?_
    obtain ⟨i, hi⟩ := hB.n0 u0
    exact hi (um i (by omega))
  have hl0 : co u (m - 1) ≠ 0 := fun q => hmin (m - 1) (by omega) ⟨u, w, pu, pw, u0, huw, fun i hi => by
    by_cases e : i = m - 1
    · rw [e]; exact q
    · exact um i (by omega)⟩
  have h1 : (1 : A) ≠ 0 := h10 _ hl0
  -- the other letter
  have hz : ∀ w' : B, w' * g = 0 → w' = 0 := fun w' e => by
    rcases dB _ _ e with q | q
    · exact q
    · exact absurd q hg
  have step3 : ∀ n u' w', ka_pl D co 0 u' → ka_pl D co 0 w' → u' * f = w' * g → (∀ i, n ≤ i → co u' i = 0) → ∃ a q, a ≠ 0 ∧ ka_po D a ∧ ka_pl D co 0 q ∧ C a * u' = q * u ∧ C a * w' = q * w := by
    intro n
    induction n with
    | zero =>
      intro u' w' pu' pw' e hn
      have eu : u' = 0 := hB.xt (fun i => by rw [hB.zz]; exact hn i (by omega))
      have ew : w' = 0 := hz w' (by rw [← e, eu]; grind)
      exact ⟨1, 0, h1, hD.p1, ka_pl_0 hB hD, by rw [eu]; grind, by rw [ew]; grind⟩
    | succ n ih =>
      intro u' w' pu' pw' e hn
      by_cases hlt : n + 1 < m
      · have eu : u' = 0 := Classical.byContradiction fun q => hmin (n + 1) hlt ⟨u', w', pu', pw', q, e, hn⟩
        have ew : w' = 0 := hz w' (by rw [← e, eu]; grind)
        exact ⟨1, 0, h1, hD.p1, ka_pl_0 hB hD, by rw [eu]; grind, by rw [ew]; grind⟩
      · obtain ⟨X, hX⟩ : ∃ X : B, X = mk (fun i => if i = n - (m - 1) then co u' n else 0) := ⟨_, rfl⟩
        have cX : ∀ i, co X i = if i = n - (m - 1) then co u' n else 0 := fun i => by rw [hX, hB.mk]
        obtain ⟨l, hl⟩ : ∃ l, l = co u (m - 1) := ⟨_, rfl⟩
        have pl1 : ka_po D l := by rw [hl]; exact ka_pl_po pu _
        have pX : ka_pl D co 0 X := by
          obtain ⟨k, k1, k2⟩ := id pu'
          refine ⟨n + k + 1, fun i hi => ?_, fun i => ?_⟩
          · rw [cX, if_neg (by omega)]
          · rw [cX]
            split
            · exact hD.mo (k2 n) (by omega)
            · exact hD.zz _
        have cXu : ∀ i, n ≤ i → co (X * u) i = co u' n * co u (i - (n - (m - 1))) := fun i hi => by
          rw [hB.ml, ka_s_one (k := n - (m - 1)) (i + 1) (by omega) (fun a ha hne => by rw [cX, if_neg hne]; grind), cX, if_pos rfl]
        have pu2 : ka_pl D co 0 (C l * u' - X * u) := ka_pl_sub hB hD (ka_pl_c hB hD pl1 pu') (ka_pl_mul hB hD pX pu)
        have pw2 : ka_pl D co 0 (C l * w' - X * w) := ka_pl_sub hB hD (ka_pl_c hB hD pl1 pw') (ka_pl_mul hB hD pX pw)
        have e2 : (C l * u' - X * u) * f = (C l * w' - X * w) * g := by grind
        have hn2 : ∀ i, n ≤ i → co (C l * u' - X * u) i = 0 := fun i hi => by
          rw [hB.sb, hB.c, cXu i hi]
          by_cases ei : i = n
          · rw [ei, show n - (n - (m - 1)) = m - 1 by omega, ← hl]; grind
          · rw [hn i (by omega), um (i - (n - (m - 1))) (by omega)]; grind
        obtain ⟨a, q, a0, pa, pq, k1, k2⟩ := ih _ _ pu2 pw2 e2 hn2
        refine ⟨a * l, q + C a * X, ?_, hD.pm pa pl1, ka_pl_add hB hD pq (ka_pl_c hB hD pa pX), ?_, ?_⟩
        · intro q0
          rcases dA _ _ q0 with q | q
          · exact a0 q
          · exact hl0 (by rw [← hl]; exact q)
        · rw [hB.cc]; grind
        · rw [hB.cc]; grind
  have step4 : ∀ n a ρ u2 w2, D (n + 1) a → ¬ D n a → ka_pl D co 0 ρ → ka_pl D co 0 u2 → ka_pl D co 0 w2 → C a * u2 = ρ * u → C a * w2 = ρ * w → ∃ q, ka_pl D co 0 q ∧ ρ = C a * q := by
    intro n
    induction n using Nat.strongRecOn with
    | _ n ih =>
      intro a ρ u2 w2 ha ha' pρ pu2 pw2 e1 e2
      have a0 : a ≠ 0 := fun q => ha' (by rw [q]; exact hD.zz n)
      have pa : ka_po D a := ⟨_, ha⟩
      refine Classical.byContradiction fun bad => ?_
      cases n with
      | zero =>
        obtain ⟨b, hb, hab⟩ := hD.un ha a0
        refine bad ⟨C b * ρ, ka_pl_c hB hD ⟨1, hb⟩ pρ, ?_⟩
        rw [← hB.cc, hab, hB.c1]
      | succ n =>
      have irr : ∀ b c, ka_po D b → ka_po D c → a = b * c → ∀ nb nc, D (nb + 1) b → ¬ D nb b → nb < n + 1 → D (nc + 1) c → ¬ D nc c → nc < n + 1 → False := by
        intro b c pb pc ea nb nc hb hb' hbn hc hc' hcn
        have b0 : b ≠ 0 := fun q => hb' (by rw [q]; exact hD.zz _)
        obtain ⟨ρ', pρ', eρ'⟩ := ih nb hbn b ρ (C c * u2) (C c * w2) hb hb' pρ (ka_pl_c hB hD pc pu2) (ka_pl_c hB hD pc pw2) (by rw [← hB.cc, ← ea]; exact e1) (by rw [← hB.cc, ← ea]; exact e2)
        have k1 : C c * u2 = ρ' * u := hB.cn dA b0 (by
          rw [← hB.cc, ← ea, e1, eρ']; grind)
        have k2 : C c * w2 = ρ' * w := hB.cn dA b0 (by
          rw [← hB.cc, ← ea, e2, eρ']; grind)
        obtain ⟨q, pq, eq⟩ := ih nc hcn c ρ' u2 w2 hc hc' pρ' pu2 pw2 k1 k2
        exact bad ⟨q, pq, by rw [eρ', eq, ea, hB.cc]⟩
      have bez : ∀ e, ka_po D e → (¬ ∃ q, ka_po D q ∧ e = a * q) → ∃ s t, ka_po D s ∧ ka_po D t ∧ s * a + t * e = 1 := by
        intro e pe hne
        obtain ⟨k, ⟨s, t, ps, pt, d0, hd⟩, hk⟩ := ka_min (P := fun k => ∃ s t, ka_po D s ∧ ka_po D t ∧ s * a + t * e ≠ 0 ∧ D k (s * a + t * e)) (n + 1 + 1) ⟨1, 0, hD.p1, hD.p0, by rw [show (1 : A) * a + 0 * e = a by grind]; exact a0, by rw [show (1 : A) * a + 0 * e = a by grind]; exact ha⟩
        obtain ⟨d, ed⟩ : ∃ d, d = s * a + t * e := ⟨_, rfl⟩
        rw [← ed] at d0 hd
        have pd : ka_po D d := ⟨_, hd⟩
        cases k with
        | zero => exact absurd ((hD.z d).1 hd) d0
        | succ k =>
        have hd' : ¬ D k d := fun q => hk k (by omega) ⟨s, t, ps, pt, by rw [← ed]; exact d0, by rw [← ed]; exact q⟩
        obtain ⟨q, r, pq, hr, ea⟩ := hD.dv hd hd' a pa
        have r0 : r = 0 := Classical.byContradiction fun r0 => hk k (by omega) ⟨1 - q * s, 0 - q * t, hD.ps hD.p1 (hD.pm pq ps), hD.ps hD.p0 (hD.pm pq pt), by
            rw [show (1 - q * s) * a + (0 - q * t) * e = r by grind]; exact r0, by
            rw [show (1 - q * s) * a + (0 - q * t) * e = r by grind]; exact hr⟩
        obtain ⟨q2, r2, pq2, hr2, ee⟩ := hD.dv hd hd' e pe
        have r20 : r2 = 0 := Classical.byContradiction fun r0 => hk k (by omega) ⟨0 - q2 * s, 1 - q2 * t, hD.ps hD.p0 (hD.pm pq2 ps), hD.ps hD.p1 (hD.pm pq2 pt), by
            rw [show (0 - q2 * s) * a + (1 - q2 * t) * e = r2 by grind]; exact r0, by
            rw [show (0 - q2 * s) * a + (1 - q2 * t) * e = r2 by grind]; exact hr2⟩
        rw [r0] at ea
        rw [r20] at ee
        have ea1 : a = q * d := by grind
        have ee1 : e = q2 * d := by grind
        have q0 : q ≠ 0 := fun q0 => a0 (by rw [ea1, q0]; grind)
        obtain ⟨nq, hq, hq'⟩ := hD.ed pq q0
        have b1 : nq ≤ n + 1 - k := by
          refine Classical.byContradiction fun z => hq' ?_
          have ha2 : D (n + 1 + 1) (d * q) := by rw [show d * q = a by rw [ea1]; grind]; exact ha
          exact hD.mo (hD.ex hd hd' pq ha2) (by omega)
        have b2 : n + 1 ≤ nq + k := by
          refine Classical.byContradiction fun z => ha' ?_
          rw [ea1]
          exact hD.mo (hD.ml hq hd) (by omega)
        have b3 : k ≤ n + 1 := by
          refine Classical.byContradiction fun z => ?_
          have ha2 : D (n + 1 + 1) (d * q) := by rw [show d * q = a by rw [ea1]; grind]; exact ha
          have := hD.ex hd hd' pq ha2
          rw [show n + 1 + 1 - k = 0 by omega] at this
          exact q0 ((hD.z q).1 this)
        by_cases k0 : k = 0
        · rw [k0] at hd
          obtain ⟨b, hb, hdb⟩ := hD.un hd d0
          exact ⟨b * s, b * t, hD.pm ⟨1, hb⟩ ps, hD.pm ⟨1, hb⟩ pt, by
            rw [show b * s * a + b * t * e = d * b by rw [ed]; grind]; exact hdb⟩
        · by_cases n0 : nq = 0
          · rw [n0] at hq
            obtain ⟨b, hb, hqb⟩ := hD.un hq q0
            exact absurd ⟨q2 * b, hD.pm pq2 ⟨1, hb⟩, by
              rw [ee1, ea1]
              rw [show q * d * (q2 * b) = q2 * d * (q * b) by grind, hqb]; grind⟩ hne
          · exact (irr q d pq pd ea1 nq k hq hq' (by omega) hd hd' (by omega)).elim
      -- the least place of ρ that a does not divide
      have hj : ∃ j, ¬ ∃ q, ka_po D q ∧ co ρ j = a * q := by
        refine Classical.byContradiction fun z => ?_
        have z1 : ∀ j, ∃ q, ka_po D q ∧ co ρ j = a * q := fun j => Classical.byContradiction fun y => z ⟨j, y⟩
        refine bad ⟨mk (fun j => Classical.choose (z1 j)), ?_, hB.xt (fun i => ?_)⟩
        · obtain ⟨N, p1, p2⟩ := id pρ
          refine ⟨N, fun i hi => ?_, fun i => ?_⟩
          · rw [hB.mk]
            have k1 := (Classical.choose_spec (z1 i)).2
            rcases dA _ _ (((p1 i hi).symm.trans k1).symm) with y | y
            · exact absurd y a0
            · exact y
          · rw [hB.mk]
            have k1 := Classical.choose_spec (z1 i)
            exact hD.mo (hD.ex ha ha' k1.1 (by rw [← k1.2]; exact p2 i)) (by omega)
        · rw [hB.c, hB.mk]
          exact (Classical.choose_spec (z1 i)).2
      obtain ⟨j0, hj0⟩ := hj
      obtain ⟨j, hj, hjm⟩ := ka_min (P := fun j => ¬ ∃ q, ka_po D q ∧ co ρ j = a * q) j0 hj0
      have key : ∀ v v2, ka_pl D co 0 v → ka_pl D co 0 v2 → C a * v2 = ρ * v → ∀ l, ∃ q, ka_po D q ∧ co v l = a * q := by
        intro v v2 pv pv2 ev l0
        refine Classical.byContradiction fun hl0 => ?_
        obtain ⟨l, hl, hlm⟩ := ka_min (P := fun l => ¬ ∃ q, ka_po D q ∧ co v l = a * q) l0 hl0
        have e3 : co (ρ * v) (j + l) = a * co v2 (j + l) := by rw [← ev, hB.c]
        rw [hB.ml] at e3
        obtain ⟨q, pq, eq⟩ := ka_s_dv hD (a := a) (F := fun b => co ρ b * co v (j + l - b)) (j := j) (j + l + 1) (fun b hb hbj => by
          by_cases bl : b < j
          · obtain ⟨q, pq, eq⟩ := Classical.byContradiction fun y => hjm b bl y
            exact ⟨q * co v (j + l - b), hD.pm pq (ka_pl_po pv _), by rw [eq]; grind⟩
          · obtain ⟨q, pq, eq⟩ := Classical.byContradiction fun y => hlm (j + l - b) (by omega) y
            exact ⟨co ρ b * q, hD.pm (ka_pl_po pρ _) pq, by rw [eq]; grind⟩)
        rw [eq, if_pos (by omega), show j + l - j = l by omega] at e3
        obtain ⟨s, t, ps, pt, est⟩ := bez (co ρ j) (ka_pl_po pρ _) hj
        refine hl ⟨s * co v l + t * (co v2 (j + l) - q), hD.pa (hD.pm ps (ka_pl_po pv _)) (hD.pm pt (hD.ps (ka_pl_po pv2 _) pq)), ?_⟩
        have e4 : co v l = (s * a + t * co ρ j) * co v l := by rw [est]; grind
        have e5 : co ρ j * co v l = a * (co v2 (j + l) - q) := by grind
        have e6 : (s * a + t * co ρ j) * co v l = a * (s * co v l) + t * (co ρ j * co v l) := by grind
        rw [e5] at e6
        refine (e4.trans e6).trans ?_
        grind
      have hu := key u u2 pu pu2 e1
      have hw := key w w2 pw pw2 e2
      obtain ⟨u3, eu3⟩ : ∃ x : B, x = mk (fun l => Classical.choose (hu l)) := ⟨_, rfl⟩
      obtain ⟨w3, ew3⟩ : ∃ x : B, x = mk (fun l => Classical.choose (hw l)) := ⟨_, rfl⟩
      have cu : ∀ l, ka_po D (co u3 l) ∧ co u l = a * co u3 l := fun l => by rw [eu3, hB.mk]; exact Classical.choose_spec (hu l)
      have cw : ∀ l, ka_po D (co w3 l) ∧ co w l = a * co w3 l := fun l => by rw [ew3, hB.mk]; exact Classical.choose_spec (hw l)
      have eu : u = C a * u3 := hB.xt (fun i => by rw [hB.c]; exact (cu i).2)
      have ew : w = C a * w3 := hB.xt (fun i => by rw [hB.c]; exact (cw i).2)
      have zc : ∀ x : A, a * x = 0 → x = 0 := fun x hx => by
        rcases dA _ _ hx with y | y
        · exact absurd y a0
        · exact y
      have pl3 : ∀ v v3, ka_pl D co 0 v → (∀ l, ka_po D (co v3 l) ∧ co v l = a * co v3 l) → ka_pl D co 0 v3 := fun v v3 pv cv => by
        obtain ⟨N, p1, p2⟩ := pv
        exact ⟨N, fun i hi => zc _ (by rw [← (cv i).2]; exact p1 i hi), fun i => hD.mo (hD.ex ha ha' (cv i).1 (by rw [← (cv i).2]; exact p2 i)) (by omega)⟩
      have E1 : 1 ≤ E := by
        refine Classical.byContradiction fun z => u0 (hB.xt (fun i => ?_))
        have := uE i
        rw [show E = 0 by omega] at this
        rw [hB.zz]
        exact (hD.z _).1 this
      refine hEmin (E - (n + 1)) (by omega) ⟨u3, w3, pl3 u u3 pu cu, pl3 w w3 pw cw, fun z => u0 (by rw [eu, z]; grind), hB.cn dA a0 (by
        rw [show C a * (u3 * f) = C a * u3 * f by grind, show C a * (w3 * g) = C a * w3 * g by grind, ← eu, ← ew]; exact huw), fun i hi => zc _ (by rw [← (cu i).2]; exact um i hi), fun i => hD.ex ha ha' (cu i).1 (by rw [← (cu i).2]; exact uE i)⟩
  have all : ∀ u' w', ka_pl D co 0 u' → ka_pl D co 0 w' → u' * f = w' * g → ∃ c, ka_pl D co 0 c ∧ u' = c * u ∧ w' = c * w := by
    intro u' w' pu' pw' e
    obtain ⟨N, p1, _⟩ := id pu'
    obtain ⟨a, q, a0, pa, pq, e1, e2⟩ := step3 N u' w' pu' pw' e p1
    obtain ⟨n, hn, hn'⟩ := hD.ed pa a0
    obtain ⟨c, pc, ec⟩ := step4 n a q u' w' hn hn' pq pu' pw' e1 e2
    exact ⟨c, pc, hB.cn dA a0 (by rw [e1, ec]; grind), hB.cn dA a0 (by rw [e2, ec]; grind)⟩
  obtain ⟨h, ph, eh1, eh2⟩ := all g f pg pf (by grind)
  exact ⟨u, w, h, pu, pw, ph, u0, fun z => hf (by rw [eh2, z]; grind), eh2, eh1, all⟩
end KA4
