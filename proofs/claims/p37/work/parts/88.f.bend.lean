section ZMk
theorem zferm {p : Int} (h : zPr p) {a : Nat} (h0 : a ≠ 0) (h1 : (a : Int) < p) : ((a : Int) ^ (p - 2).toNat * a) % p = 1 := by
  have g2 : ∀ a : Nat, a < 2 → a ≠ 0 → ((a : Int) ^ 0 * a) % 2 = 1 := by decide +kernel
  have g3 : ∀ a : Nat, a < 3 → a ≠ 0 → ((a : Int) ^ 1 * a) % 3 = 1 := by decide +kernel
  have g5 : ∀ a : Nat, a < 5 → a ≠ 0 → ((a : Int) ^ 3 * a) % 5 = 1 := by decide +kernel
  have g7 : ∀ a : Nat, a < 7 → a ≠ 0 → ((a : Int) ^ 5 * a) % 7 = 1 := by decide +kernel
  have g11 : ∀ a : Nat, a < 11 → a ≠ 0 → ((a : Int) ^ 9 * a) % 11 = 1 := by decide +kernel
  have g13 : ∀ a : Nat, a < 13 → a ≠ 0 → ((a : Int) ^ 11 * a) % 13 = 1 := by decide +kernel
  have g17 : ∀ a : Nat, a < 17 → a ≠ 0 → ((a : Int) ^ 15 * a) % 17 = 1 := by decide +kernel
  have g19 : ∀ a : Nat, a < 19 → a ≠ 0 → ((a : Int) ^ 17 * a) % 19 = 1 := by decide +kernel
  have g23 : ∀ a : Nat, a < 23 → a ≠ 0 → ((a : Int) ^ 21 * a) % 23 = 1 := by decide +kernel
  have g29 : ∀ a : Nat, a < 29 → a ≠ 0 → ((a : Int) ^ 27 * a) % 29 = 1 := by decide +kernel
  have g31 : ∀ a : Nat, a < 31 → a ≠ 0 → ((a : Int) ^ 29 * a) % 31 = 1 := by decide +kernel
  rcases h with h | h | h | h | h | h | h | h | h | h | h
  · subst h; exact g2 a (by omega) h0
  · subst h; exact g3 a (by omega) h0
  · subst h; exact g5 a (by omega) h0
  · subst h; exact g7 a (by omega) h0
  · subst h; exact g11 a (by omega) h0
  · subst h; exact g13 a (by omega) h0
  · subst h; exact g17 a (by omega) h0
  · subst h; exact g19 a (by omega) h0
  · subst h; exact g23 a (by omega) h0
  · subst h; exact g29 a (by omega) h0
  · subst h; exact g31 a (by omega) h0
theorem zKp.pw {K : Type} [Lean.Grind.CommRing K] {p : Int} {φ : Int → K} (h : zKp K p φ) (a : Int) : ∀ k : Nat, φ (a ^ k) = φ a ^ k
  | 0 => by rw [Int.pow_zero, Lean.Grind.Semiring.pow_zero]; exact h.o
  | k + 1 => by rw [Int.pow_succ, Lean.Grind.Semiring.pow_succ, h.ml, h.pw a k]
theorem zinvF_ok (a p : Int) : ∀ (n : Nat) (k : Int), (∃ k', k ≤ k' ∧ k' < k + n ∧ a * k' % p = 1) → a * zinvF a p n k % p = 1
  | 0, k, ⟨k', h1, h2, _⟩ => by omega
  | n + 1, k, ⟨k', h1, h2, h3⟩ => by
    show a * (if a * k % p = 1 then k else zinvF a p n (k + 1)) % p = 1
    by_cases e : a * k % p = 1
    · rw [if_pos e]; exact e
    · rw [if_neg e]
      refine zinvF_ok a p n (k + 1) ⟨k', ?_, by omega, h3⟩
      by_cases z : k' = k
      · rw [z] at h3; exact absurd h3 e
      · omega
/-- the class's inverse -/
theorem zK_inv {K : Type} [Lean.Grind.CommRing K] {p : Int} {φ : Int → K} (h : zKp K p φ) (hp : 2 ≤ p) {a : Int} (h0 : φ a ≠ 0) : φ a * φ (zinv a p) = 1 := by
  obtain ⟨x, hx⟩ := h.F.2 _ h0
  obtain ⟨k, k0, k1, rfl⟩ := h.su x
  have e : a * k % p = 1 := by
    rw [← h.ml, ← h.o, h.q] at hx
    rw [hx]
    exact Int.emod_eq_of_lt (by omega) (by omega)
  have kn : k ≠ 0 := fun z => by
    rw [z, Int.mul_zero, Int.zero_emod] at e
    omega
  have q := zinvF_ok a p (p - 1).toNat 1 ⟨k, by omega, by omega, e⟩
  rw [← h.ml, ← h.o, h.q]
  show a * zinvF a p (p - 1).toNat 1 % p = _
  rw [q]
  exact (Int.emod_eq_of_lt (by omega) (by omega)).symm
theorem zK_t0 {K : Type} [Lean.Grind.CommRing K] {p : Int} {φ : Int → K} (h : zKp K p φ) (s : Int) : Int.tmod s p = 0 ↔ φ s = 0 := by
  constructor
  · intro e
    rw [← h.tm, e, h.z]
  · intro e
    exact Int.tmod_eq_zero_of_dvd (Int.dvd_of_emod_eq_zero ((h.zz s).1 e))
theorem zK_pow0 {K : Type} [Lean.Grind.CommRing K] (hF : ka_F K) {r : K} (h0 : r ≠ 0) : ∀ k : Nat, r ^ k ≠ 0
  | 0 => by rw [Lean.Grind.Semiring.pow_zero]; exact hF.1
  | k + 1 => by
    rw [Lean.Grind.Semiring.pow_succ]
    intro e
    rcases hF.dom _ _ e with q | q
    · exact zK_pow0 hF h0 k q
    · exact h0 q
theorem zLk_can {M : zCt} (hp : 0 < M.1 0 3) {cv pt : Int} : zcan (M.1 0 3) (zLk M cv pt) := zlook_can hp
end ZMk
