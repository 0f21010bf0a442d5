section ZEg
/-- a POLYNOMIAL of which only some TERMS are taken -/
noncomputable def kc_on {K : Type} [Lean.Grind.CommRing K] (S : Nat → Nat → Prop) (F : Nat → Nat → K) : Nat → Nat → K := fun i j => @ite K (S i j) (Classical.propDecidable _) (F i j) 0
theorem kc_on_t {K : Type} [Lean.Grind.CommRing K] {S : Nat → Nat → Prop} {F : Nat → Nat → K} {i j : Nat} (h : S i j) : kc_on S F i j = F i j := by unfold kc_on; rw [if_pos h]
theorem kc_on_f {K : Type} [Lean.Grind.CommRing K] {S : Nat → Nat → Prop} {F : Nat → Nat → K} {i j : Nat} (h : ¬ S i j) : kc_on S F i j = 0 := by unfold kc_on; rw [if_neg h]
/-- the TERM of a DEGREE with the greatest i -/
def kLd {K : Type} [Lean.Grind.CommRing K] (D : Nat → Nat → K) (L X : Nat) : Prop := X ≤ L ∧ D X (L - X) ≠ 0 ∧ (∀ i j, L < i + j → D i j = 0) ∧ ∀ i, X < i → i ≤ L → D i (L - i) = 0
theorem zK_put2 {K : Type} [Lean.Grind.CommRing K] {p : Int} {φ : Int → K} (h : zKp K p φ) {c : Nat → Int} {i j : Nat} (hij : i + j ≤ 4) (v : Int) : zq φ (zput c i j v) = fun A B => if A = i ∧ B = j then φ v else zq φ c A B := funext fun A => funext fun B => by
  by_cases q : A + B ≤ 4
  · rw [zq_t q, zK_putN h hij q, zq_t q]
    by_cases e : A = i ∧ B = j
    · rw [if_pos e, if_pos ⟨e.1.symm, e.2.symm⟩]
    · rw [if_neg e, if_neg (fun z => e ⟨z.1.symm, z.2.symm⟩)]
  · rw [zq_f q, if_neg (by omega), zq_f q]
/-- a step of the division -/
theorem kquo_step {K : Type} [Lean.Grind.CommRing K] {p : Int} {φ : Int → K} (h : zKp K p φ) {e : Nat → Int} {Q : Nat → Nat → K} {v : Int} {L X d i : Nat} {S S' : Nat → Nat → Prop} {s : (Nat → Int) × (Nat → Int)} (hD : kLd (zq φ e) L X) (hv : φ (zat e X ((L - X : Nat) : Int)) * φ v = 1) (hi : i ≤ d) (hLd : L + d ≤ 4) (hQ : ∀ a b, S a b → a + b < d ∨ (a + b = d ∧ a ≤ i)) (hSi : S i (d - i)) (hS' : ∀ a b, S' a b ↔ S a b ∧ ¬ (a = i ∧ b = d - i)) (h1 : ∀ a b, zq φ s.1 a b = kc_on (fun a b => ¬ S a b ∧ a + b ≤ 4) Q a b) (h2 : ∀ a b, zq φ s.2 a b = kc_mul (zq φ e) (kc_on S Q) a b) :
    (∀ a b, zq φ (zquo_in e v X L p d i s).1 a b = kc_on (fun a b => ¬ S' a b ∧ a + b ≤ 4) Q a b) ∧ ∀ a b, zq φ (zquo_in e v X L p d i s).2 a b = kc_mul (zq φ e) (kc_on S' Q) a b := by
  obtain ⟨x1, x2, x3, x4⟩ := hD
  obtain ⟨j, hj⟩ : ∃ j, j = d - i := ⟨_, rfl⟩
  obtain ⟨Y, hY⟩ : ∃ Y, Y = L - X := ⟨_, rfl⟩
  rw [← hj] at hSi hS'
  rw [← hY] at hv x2
  -- the number
  have top : kc_mul (zq φ e) (kc_on S Q) (X + i) (Y + j) = zq φ e X Y * Q i j := by
    unfold kc_mul
    have tz : ∀ a b, a ≤ X + i → b ≤ Y + j → ¬ (a = X ∧ b = Y) → zq φ e a b * kc_on S Q (X + i - a) (Y + j - b) = 0 := fun a b ha hb hne => by
      by_cases q1 : L < a + b
      · rw [x3 a b q1, ka_zm]
      · by_cases q2 : S (X + i - a) (Y + j - b)
        · rcases hQ _ _ q2 with z | z
          · omega
          · have q3 : X < a := by omega
            have := x4 a q3 (by omega)
            rw [show L - a = b by omega] at this
            rw [this, ka_zm]
        · rw [kc_on_f q2, ka_mz]
    rw [ka_s_one (k := X) (X + i + 1) (by omega) (fun a ha hne => ka_s_zero _ (fun b hb => tz a b (by omega) (by omega) (fun z => hne z.1))), ka_s_one (k := Y) (Y + j + 1) (by omega) (fun b hb hne => tz X b (by omega) (by omega) (fun z => hne z.2)), show X + i - X = i by omega, show Y + j - Y = j by omega, kc_on_t hSi]
  obtain ⟨nu, hnu⟩ : ∃ nu, nu = v * zat s.2 ((X : Int) + (i : Int)) ((L : Int) - (X : Int) + ((d : Int) - (i : Int))) % p := ⟨_, rfl⟩
  have ez : zquo_in e v X L p d i s = (zput s.1 i ((d : Int) - (i : Int)) nu, zaddS s.2 e i ((d : Int) - (i : Int)) (p - nu) p) := by
    rw [hnu]; rfl
  have eat : zat s.2 ((X : Int) + (i : Int)) ((L : Int) - (X : Int) + ((d : Int) - (i : Int))) = zat s.2 ((X + i : Nat) : Int) ((Y + j : Nat) : Int) := by
    rw [show (X : Int) + (i : Int) = ((X + i : Nat) : Int) by omega, show (L : Int) - (X : Int) + ((d : Int) - (i : Int)) = ((Y + j : Nat) : Int) by omega]
  have fnu : φ nu = Q i j := by
    rw [hnu, h.em, h.ml, eat, zatN (by omega)]
    have e1 := h2 (X + i) (Y + j)
    rw [zq_t (by omega), top] at e1
    rw [e1]
    have e2 : zat e X (Y : Int) = e (5 * X + Y) := zatN (by omega)
    rw [e2] at hv
    rw [zq_t (c := e) (i := X) (j := Y) (by omega), show φ v * (φ (e (5 * X + Y)) * Q i j) = (φ (e (5 * X + Y)) * φ v) * Q i j by grind, hv, ka_om]
  rw [ez, show (d : Int) - (i : Int) = (j : Int) by omega]
  constructor
  · intro a b
    show zq φ (zput s.1 i j nu) a b = _
    rw [zK_put2 h (by omega)]
    show (if a = i ∧ b = j then φ nu else zq φ s.1 a b) = _
    by_cases z : a = i ∧ b = j
    · rw [if_pos z, fnu, z.1, z.2, kc_on_t]
      exact ⟨fun y => ((hS' i j).1 y).2 ⟨rfl, rfl⟩, by omega⟩
    · rw [if_neg z, h1]
      by_cases y : ¬ S a b ∧ a + b ≤ 4
      · rw [kc_on_t y, kc_on_t]
        exact ⟨fun x => y.1 ((hS' a b).1 x).1, y.2⟩
      · rw [kc_on_f y, kc_on_f]
        intro x
        exact y ⟨fun w => x.1 ((hS' a b).2 ⟨w, z⟩), x.2⟩
  · have e3 : kc_on S Q = fun a b => kc_on S' Q a b + Q i j * kc_t 1 i j a b := funext fun a => funext fun b => by
      unfold kc_t
      by_cases z : a = i ∧ b = j
      · rw [if_pos z, z.1, z.2, kc_on_t hSi, kc_on_f (fun y => ((hS' i j).1 y).2 ⟨rfl, rfl⟩)]; grind
      · rw [if_neg z, ka_mz, ka_az]
        by_cases y : S a b
        · rw [kc_on_t y, kc_on_t ((hS' a b).2 ⟨y, z⟩)]
        · rw [kc_on_f y, kc_on_f (fun x => y ((hS' a b).1 x).1)]
    have e4 : ∀ a b, kc_mul (zq φ e) (kc_on S Q) a b = kc_mul (zq φ e) (kc_on S' Q) a b + Q i j * kc_mul (kc_t 1 i j) (zq φ e) a b := fun a b => by
      rw [kc_mul_comm (zq φ e) (kc_on S Q), e3, kc_mul_ac, kc_mul_comm (kc_on S' Q)]
    intro a b
    show zq φ (zaddS s.2 e i j (p - nu) p) a b = _
    by_cases q : a + b ≤ 4
    · rw [zq_t q, zK_addS h _ _ _ _ _ q, h.sb, h.pz, fnu]
      have e5 := h2 a b
      rw [zq_t q, e4, kc_t_mul] at e5
      rw [e5]
      by_cases z : i ≤ a ∧ j ≤ b
      · rw [if_pos z, if_pos z, zq_t (c := e) (by omega)]; grind
      · rw [if_neg z, if_neg z]; grind
    · rw [zq_f q]
      refine (kc_zero (n := L) (m := d) x3 (fun x y hxy => kc_on_f (fun w => ?_)) a b (by omega)).symm
      have := hQ x y ((hS' x y).1 w).1
      omega
/-- the whole division -/
theorem kquo {K : Type} [Lean.Grind.CommRing K] {p : Int} {φ : Int → K} (h : zKp K p φ) (hp : 2 ≤ p) {e r : Nat → Int} {Q : Nat → Nat → K} (he : zcan p e) (te : 0 ≤ ztop e) (hM : ztop e ≤ ztop r) (hr : zq φ r = kc_mul (zq φ e) Q) (hQ : ∀ a b : Nat, ztop r - ztop e < ((a + b : Nat) : Int) → Q a b = 0) : zq φ (zquo e r p).1 = Q := by
  obtain ⟨L, hL⟩ : ∃ L : Nat, (L : Int) = ztop e := ⟨(ztop e).toNat, by omega⟩
  obtain ⟨N, hN⟩ : ∃ N : Nat, (N : Int) = ztop r - ztop e := ⟨(ztop r - ztop e).toNat, by omega⟩
  have tr := zT_le r
  have fe : ∀ i j, L < i + j → zq φ e i j = 0 := fun i j hij => by
    by_cases q : i + j ≤ 4
    · rw [zq_t q, zT_z (c := e) q (by omega), h.z]
    · exact zq_f q
  obtain ⟨X, hX1, hX2, hX3, hX4⟩ : ∃ X : Nat, X ≤ L ∧ zlead e L = X ∧ e (5 * X + (L - X)) ≠ 0 ∧ ∀ k' : Nat, X < k' → k' ≤ L → e (5 * k' + (L - k')) = 0 := by
    rcases zlead_sp e (d := L) (by omega) with ⟨_, z⟩ | z
    · obtain ⟨i, j, q1, q2, q3⟩ := zT_ex te
      have := z i (by omega)
      rw [show L - i = j by omega] at this
      exact absurd this q3
    · exact z
  have hD : kLd (zq φ e) L X := ⟨hX1, by
    rw [zq_t (by omega)]
    exact fun z => hX3 ((h.z0 (he _)).1 z), fe, fun i h1 h2 => by rw [zq_t (by omega), hX4 i h1 h2, h.z]⟩
  have hv : φ (zat e X ((L - X : Nat) : Int)) * φ (zinv (zat e X ((L - X : Nat) : Int)) p) = 1 := zK_inv h hp (by
    rw [zatN (by omega)]
    exact fun z => hX3 ((h.z0 (he _)).1 z))
  have eL : zquo e r p = zforD (zquo_out e (zinv (zat e X ((L - X : Nat) : Int)) p) X L p) N (zone 0, r) (N + 1) := by
    unfold zquo zquoL
    rw [← hL, hX2, show ztop r - (L : Int) = (N : Int) by omega, show ((L : Int) - (X : Int)) = ((L - X : Nat) : Int) by omega, show ((N : Int) - -1).toNat = N + 1 by omega]
  rw [eL]
  obtain ⟨v, hvv⟩ : ∃ v, v = zinv (zat e X ((L - X : Nat) : Int)) p := ⟨_, rfl⟩
  rw [← hvv] at hv ⊢
  -- what has not yet been reached
  have inner : ∀ (d : Nat) (s : (Nat → Int) × (Nat → Int)), L + d ≤ 4 → (∀ a b, zq φ s.1 a b = kc_on (fun a b => ¬ (a + b < d + 1) ∧ a + b ≤ 4) Q a b) → (∀ a b, zq φ s.2 a b = kc_mul (zq φ e) (kc_on (fun a b => a + b < d + 1) Q) a b) → (∀ a b, zq φ (zforD (zquo_in e v X L p d) d s (d + 1)).1 a b = kc_on (fun a b => ¬ (a + b < d) ∧ a + b ≤ 4) Q a b) ∧ ∀ a b, zq φ (zforD (zquo_in e v X L p d) d s (d + 1)).2 a b = kc_mul (zq φ e) (kc_on (fun a b => a + b < d) Q) a b := by
    intro d s hd g1 g2
    have go : ∀ k : Nat, k ≤ d + 1 → (∀ a b, zq φ (zforD (zquo_in e v X L p d) d s k).1 a b = kc_on (fun a b => ¬ (a + b < d ∨ (a + b = d ∧ a + k ≤ d)) ∧ a + b ≤ 4) Q a b) ∧ ∀ a b, zq φ (zforD (zquo_in e v X L p d) d s k).2 a b = kc_mul (zq φ e) (kc_on (fun a b => a + b < d ∨ (a + b = d ∧ a + k ≤ d)) Q) a b := by
      intro k
      induction k with
      | zero =>
        intro _
        have e1 : (fun a b : Nat => a + b < d + 1) = fun a b => a + b < d ∨ (a + b = d ∧ a + 0 ≤ d) := funext fun a => funext fun b => propext (by omega)
        have e2 : (fun a b : Nat => ¬ (a + b < d + 1) ∧ a + b ≤ 4) = fun a b => ¬ (a + b < d ∨ (a + b = d ∧ a + 0 ≤ d)) ∧ a + b ≤ 4 := funext fun a => funext fun b => propext (by omega)
        rw [e1] at g2
        rw [e2] at g1
        exact ⟨g1, g2⟩
      | succ k ih =>
        intro hk
        obtain ⟨i1, i2⟩ := ih (by omega)
        have st := kquo_step h (v := v) (d := d) (i := d - k) (S' := fun a b => a + b < d ∨ (a + b = d ∧ a + (k + 1) ≤ d)) hD hv (by omega) hd (fun a b hab => by omega) (Or.inr ⟨by omega, by omega⟩) (fun a b => by constructor <;> intro q <;> omega) i1 i2
        have e3 : zforD (zquo_in e v X L p d) d s (k + 1) = zquo_in e v X L p d ((d - k : Nat) : Int) (zforD (zquo_in e v X L p d) d s k) := by
          show zquo_in e v X L p d ((d : Int) - (k : Int)) (zforD (zquo_in e v X L p d) d s k) = _
          rw [show (d : Int) - (k : Int) = ((d - k : Nat) : Int) by omega]
        rw [e3]
        exact st
    obtain ⟨r1, r2⟩ := go (d + 1) (Nat.le_refl _)
    have e1 : (fun a b : Nat => a + b < d) = fun a b => a + b < d ∨ (a + b = d ∧ a + (d + 1) ≤ d) := funext fun a => funext fun b => propext (by omega)
    have e2 : (fun a b : Nat => ¬ (a + b < d) ∧ a + b ≤ 4) = fun a b => ¬ (a + b < d ∨ (a + b = d ∧ a + (d + 1) ≤ d)) ∧ a + b ≤ 4 := funext fun a => funext fun b => propext (by omega)
    rw [e1, e2]
    exact ⟨r1, r2⟩
  have outer : ∀ k : Nat, k ≤ N + 1 → (∀ a b, zq φ (zforD (zquo_out e v X L p) N (zone 0, r) k).1 a b = kc_on (fun a b => ¬ (a + b + k < N + 1) ∧ a + b ≤ 4) Q a b) ∧ ∀ a b, zq φ (zforD (zquo_out e v X L p) N (zone 0, r) k).2 a b = kc_mul (zq φ e) (kc_on (fun a b => a + b + k < N + 1) Q) a b := by
    intro k
    induction k with
    | zero =>
      intro _
      refine ⟨fun a b => ?_, fun a b => ?_⟩
      · show zq φ (zone 0) a b = _
        have z0 : zq φ (zone 0) a b = 0 := by
          rw [zq_one h, h.z]
          unfold kc_t
          split <;> rfl
        rw [z0]
        by_cases y : ¬ (a + b + 0 < N + 1) ∧ a + b ≤ 4
        · rw [kc_on_t y, hQ a b (by omega)]
        · rw [kc_on_f y]
      · show zq φ r a b = _
        rw [hr]
        have e1 : kc_on (fun a b => a + b + 0 < N + 1) Q = Q := funext fun a => funext fun b => by
          by_cases y : a + b + 0 < N + 1
          · exact kc_on_t y
          · exact (kc_on_f (S := fun a b => a + b + 0 < N + 1) y).trans (hQ a b (by omega)).symm
        rw [e1]
    | succ k ih =>
      intro hk
      obtain ⟨i1, i2⟩ := ih (by omega)
      have e1 : (fun a b : Nat => a + b + k < N + 1) = fun a b => a + b < (N - k) + 1 := funext fun a => funext fun b => propext (by omega)
      have e2 : (fun a b : Nat => ¬ (a + b + k < N + 1) ∧ a + b ≤ 4) = fun a b => ¬ (a + b < (N - k) + 1) ∧ a + b ≤ 4 := funext fun a => funext fun b => propext (by omega)
      have e3 : (fun a b : Nat => a + b + (k + 1) < N + 1) = fun a b => a + b < N - k := funext fun a => funext fun b => propext (by omega)
      have e4 : (fun a b : Nat => ¬ (a + b + (k + 1) < N + 1) ∧ a + b ≤ 4) = fun a b => ¬ (a + b < N - k) ∧ a + b ≤ 4 := funext fun a => funext fun b => propext (by omega)
      rw [e2] at i1
      rw [e1] at i2
      rw [e3, e4]
      have e5 : zforD (zquo_out e v X L p) N (zone 0, r) (k + 1) = zforD (zquo_in e v X L p ((N - k : Nat) : Int)) ((N - k : Nat) : Int) (zforD (zquo_out e v X L p) N (zone 0, r) k) (N - k + 1) := by
        show zforD (zquo_in e v X L p ((N : Int) - (k : Int))) ((N : Int) - (k : Int)) (zforD (zquo_out e v X L p) N (zone 0, r) k) ((N : Int) - (k : Int) - -1).toNat = _
        rw [show ((N : Int) - (k : Int) - -1).toNat = N - k + 1 by omega, show (N : Int) - (k : Int) = ((N - k : Nat) : Int) by omega]
      rw [e5]
      exact inner (N - k) _ (by omega) i1 i2
  funext a b
  rw [(outer (N + 1) (Nat.le_refl _)).1 a b]
  by_cases y : a + b ≤ 4
  · rw [kc_on_t ⟨by omega, y⟩]
  · rw [kc_on_f (fun z => y z.2), hQ a b (by omega)]
end ZEg
