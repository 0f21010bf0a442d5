section ZWg
/-- a part has no more dimensions -/
theorem kl_dim_le {K I : Type} [Lean.Grind.CommRing K] (hK : ka_F K) {U W : (I → K) → Prop} {s r : Nat} (hU : kl_dim U s) (hW : kl_dim W r) (h : ∀ v, W v → U v) : r ≤ s := by
  obtain ⟨x, x1, x2, x3⟩ := hU
  obtain ⟨y, y1, y2, y3⟩ := hW
  exact kl_le hK y1 (fun t ht => x3 _ (h _ (y2 t ht)))
theorem kh_add {K : Type} [Lean.Grind.CommRing K] {Λ : Nat → (Nat → Nat → K) → Nat → Nat → K} (hΛ : kh_ok Λ) (D : Nat) (X Y : Nat → Nat → K) : Λ D (fun i j => X i j + Y i j) = fun i j => Λ D X i j + Λ D Y i j := by
  have q := hΛ.2.2.1 D (fun _ => 1) (fun t => if t = 0 then X else Y) 2
  have q1 : (fun i j => ka_s (fun t => (1 : K) * (if t = 0 then X else Y) i j) 2) = fun i j => X i j + Y i j := funext fun i => funext fun j => by
    show (0 + 1 * X i j) + 1 * Y i j = X i j + Y i j
    rw [ka_za, ka_om, ka_om]
  rw [q1] at q
  rw [q]
  refine funext fun i => funext fun j => ?_
  show (0 + 1 * Λ D X i j) + 1 * Λ D Y i j = _
  rw [ka_za, ka_om, ka_om]
/-- what two make, as POLYNOMIALS -/
theorem kp_G_P {K : Type} [Lean.Grind.CommRing K] {n m : Nat} {f g : Nat → Nat → K} {v : Nat → K} (hn : n ≤ 24) (hm : m ≤ 24) (hv : kp_G 325 (nT (25 - n)) (nT (25 - m)) f g v) : ∃ A B : Nat → Nat → K, (∀ i j, 24 - n < i + j → A i j = 0) ∧ (∀ i j, 24 - m < i + j → B i j = 0) ∧ v = kp_w 325 (fun i j => kc_mul A f i j + kc_mul B g i j) := by
  obtain ⟨x, hx, e⟩ := hv
  refine ⟨kUn x 0 (nT (25 - n)), kUn x (nT (25 - n)) (nT (25 - m)), fun i j hij => ?_, fun i j hij => ?_, e.symm⟩
  · rw [show 25 - n = 24 - n + 1 by omega]
    exact kUn_dg i j hij
  · rw [show 25 - m = 24 - m + 1 by omega]
    exact kUn_dg i j hij
/-- near a POINT -/
theorem kh_AB {K : Type} [Lean.Grind.CommRing K] {Λ : Nat → (Nat → Nat → K) → Nat → Nat → K} (hΛ : kh_ok Λ) {n m : Nat} {f g A B : Nat → Nat → K} (hn : n ≤ 24) (hm : m ≤ 24) (f1 : ∀ i j, n < i + j → f i j = 0) (g1 : ∀ i j, m < i + j → g i j = 0) (hA : ∀ i j, 24 - n < i + j → A i j = 0) (hB : ∀ i j, 24 - m < i + j → B i j = 0) : Λ 24 (fun i j => kc_mul A f i j + kc_mul B g i j) = fun i j => kc_mul (Λ (24 - n) A) (Λ n f) i j + kc_mul (Λ (24 - m) B) (Λ m g) i j := by
  have m1 := hΛ.2.1 (24 - n) n A f (by omega) hA f1
  rw [show 24 - n + n = 24 by omega] at m1
  have m2 := hΛ.2.1 (24 - m) m B g (by omega) hB g1
  rw [show 24 - m + m = 24 by omega] at m2
  rw [kh_add hΛ, m1, m2]
theorem kh_ABd {K : Type} [Lean.Grind.CommRing K] {n m : Nat} {f g A B : Nat → Nat → K} (hn : n ≤ 24) (hm : m ≤ 24) (f1 : ∀ i j, n < i + j → f i j = 0) (g1 : ∀ i j, m < i + j → g i j = 0) (hA : ∀ i j, 24 - n < i + j → A i j = 0) (hB : ∀ i j, 24 - m < i + j → B i j = 0) : ∀ i j, 24 < i + j → (fun i j => kc_mul A f i j + kc_mul B g i j) i j = 0 := fun i j hij => by
  show kc_mul A f i j + kc_mul B g i j = 0
  rw [kc_zero hA f1 i j (by omega), kc_zero hB g1 i j (by omega), ka_az]
/-- what both make lies in the ideals at all POINTS -/
theorem kB_I {K : Type} [Lean.Grind.CommRing K] {Λ : Nat → Nat → (Nat → Nat → K) → Nat → Nat → K} {n m s : Nat} {f g : Nat → Nat → K} (hΛ : ∀ q, q < s → kh_ok (Λ q)) (hn : n ≤ 24) (hm : m ≤ 24) (f1 : ∀ i j, n < i + j → f i j = 0) (g1 : ∀ i j, m < i + j → g i j = 0) {v : Nat → K} (hv : kp_G 325 (nT (25 - n)) (nT (25 - m)) f g v) : kB_U Λ (fun q => Λ q n f) (fun q => Λ q m g) s v := by
  obtain ⟨A, B, hA, hB, e⟩ := kp_G_P hn hm hv
  refine ⟨fun k hk => by rw [e]; exact if_neg (by omega), fun q hq => ⟨Λ q (24 - n) A, Λ q (24 - m) B, ?_⟩⟩
  unfold kB_T
  rw [e, kUn_w (kh_ABd hn hm f1 g1 hA hB), kh_AB (hΛ q hq) hn hm f1 g1 hA hB]
/-- times (153 less a dimension) at a POINT -/
def kPT {K : Type} [Lean.Grind.CommRing K] (Λ : Nat → (Nat → Nat → K) → Nat → Nat → K) (n m : Nat) (f g : Nat → Nat → K) (t : Nat) : Prop := t ≤ 16 ∧ kl_dim (kz_V (Λ n f) (Λ m g)) (153 - t)
/-- lines through each POINT, through no other -/
def kLn {K : Type} [Lean.Grind.CommRing K] (Λ : Nat → Nat → (Nat → Nat → K) → Nat → Nat → K) (ln : Nat → Nat → Nat → Nat → K) (s : Nat) : Prop := ∀ q q', q < s → q' < s → q ≠ q' → (∀ i j, 1 < i + j → ln q q' i j = 0) ∧ Λ q 1 (ln q q') 0 0 ≠ 0 ∧ Λ q' 1 (ln q q') 0 0 = 0
/-- BEZOUT: sums of TIMES -/
theorem kB_sum {K : Type} [Lean.Grind.CommRing K] (hK : ka_F K) {Λ : Nat → Nat → (Nat → Nat → K) → Nat → Nat → K} {ln : Nat → Nat → Nat → Nat → K} {n m c : Nat} {f g : Nat → Nat → K} {t : Nat → Nat} (hn : n ≤ 24) (hm : m ≤ 24) (f1 : ∀ i j, n < i + j → f i j = 0) (g1 : ∀ i j, m < i + j → g i j = 0) (hc : kl_dim (kp_G 325 (nT (25 - n)) (nT (25 - m)) f g) (325 - c)) (c12 : c ≤ 12) : ∀ s, (∀ q, q < s → kh_ok (Λ q) ∧ kh_sur (Λ q) ∧ kPT (Λ q) n m f g (t q)) → kLn Λ ln s → kns t s ≤ c := fun s => by
  have base : ∀ s, kns t s ≤ 25 → (∀ q, q < s → kh_ok (Λ q) ∧ kh_sur (Λ q) ∧ kPT (Λ q) n m f g (t q)) → kLn Λ ln s → kns t s ≤ c := fun s h25 hq hl => by
    have d := kB_dim hK (Λ := Λ) (F := fun q => Λ q n f) (G := fun q => Λ q m g) (t := t) (ln := ln) s h25 (fun q h => ⟨(hq q h).1, (hq q h).2.1, (hq q h).2.2.1, (hq q h).2.2.2⟩) hl
    have le := kl_dim_le hK d hc (fun v hv => kB_I (fun q h => (hq q h).1) hn hm f1 g1 hv)
    omega
  induction s with
  | zero => exact fun _ _ => Nat.zero_le _
  | succ s ih =>
    intro hq hl
    have i1 := ih (fun q h => hq q (by omega)) (fun q q' h h' => hl q q' (by omega) (by omega))
    have e : kns t (s + 1) = kns t s + t s := rfl
    have t16 := (hq s (by omega)).2.2.1
    have one : t s ≤ c := by
      have := kl_dim_le hK (U := kB_U (fun _ => Λ s) (fun _ => Λ s n f) (fun _ => Λ s m g) 1) (s := 325 - t s) (r := 325 - c) ?_ hc (fun v hv => kB_I (Λ := fun _ => Λ s) (fun q h => (hq s (by omega)).1) hn hm f1 g1 hv)
      · omega
      · have d := kB_dim hK (Λ := fun _ => Λ s) (F := fun _ => Λ s n f) (G := fun _ => Λ s m g) (t := fun _ => t s) (ln := fun _ _ _ _ => 0) 1 (by
          show 0 + t s ≤ 25
          omega) (fun q h => ⟨(hq s (by omega)).1, (hq s (by omega)).2.1, (hq s (by omega)).2.2.1, (hq s (by omega)).2.2.2⟩) (fun q q' h h' ne => absurd (show q = q' by omega) ne)
        have e2 : kns (fun _ => t s) 1 = t s := Nat.zero_add _
        rw [e2] at d
        exact d
    exact base (s + 1) (by omega) hq hl
end ZWg
