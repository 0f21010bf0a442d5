section ZGj
/-- closed under sums and multiples -/
def kp_C {K : Type} [Lean.Grind.CommRing K] (G : (Nat → K) → Prop) : Prop := G (fun _ => 0) ∧ ∀ f g c, G f → G g → G (fun k => f k + c * g k)
theorem kp_C.sp {K : Type} [Lean.Grind.CommRing K] {G : (Nat → K) → Prop} (hG : kp_C G) {x : Nat → Nat → K} {n : Nat} (hx : ∀ t, t < n → G (x t)) {v : Nat → K} (hv : kl_sp x n v) : G v := by
  obtain ⟨a, ha⟩ := hv
  have e : ∀ m, m ≤ n → G (fun i => ka_s (fun t => a t * x t i) m) := fun m => by
    induction m with
    | zero => intro _; exact hG.1
    | succ m ih =>
      intro hm
      exact hG.2 _ _ (a m) (ih (by omega)) (hx m (by omega))
  have e2 : v = fun i => ka_s (fun t => a t * x t i) n := funext ha
  rw [e2]
  exact e n (Nat.le_refl _)
/-- a pile of which G knows where it lies and H what it reaches -/
def kp_I {K : Type} [Lean.Grind.CommRing K] (φ : Int → K) (p : Int) (W : Nat) (G H : (Nat → K) → Prop) (S : zS2) : Prop := ∃ n, kp_E φ p W n S ∧ (∀ r, r < n → G (kp_x φ W S r)) ∧ ∀ v, H v → kl_sp (kp_x φ W S) n v
theorem kp_I.same {K : Type} [Lean.Grind.CommRing K] {φ : Int → K} {p : Int} {W : Nat} {G H : (Nat → K) → Prop} {S T : zS2} (h : kp_I φ p W G H S) (h0 : ∀ a i : Nat, a = 10 ∨ a = 11 ∨ (a = 0 ∧ (i = 10 ∨ i = 23 ∨ i = 24)) → T a i = S a i) : kp_I φ p W G H T := by
  obtain ⟨n, h1, h2, h3⟩ := h
  have ex : kp_x φ W T = kp_x φ W S := funext fun r => funext fun k => by
    unfold kp_x
    rw [h0 10 _ (by omega)]
  exact ⟨n, h1.same h0, by rw [ex]; exact h2, by rw [ex]; exact h3⟩
theorem kp_I.dim {K : Type} [Lean.Grind.CommRing K] {φ : Int → K} {p : Int} {W : Nat} {G H : (Nat → K) → Prop} {S : zS2} (h : kp_I φ p W G H S) (hGH : ∀ v, G v → ∀ n, (∀ w, H w → kl_sp (kp_x φ W S) n w) → kl_sp (kp_x φ W S) n v) : ∃ n : Nat, S 0 23 = n ∧ kl_dim G n := by
  obtain ⟨n, h1, h2, h3⟩ := h
  exact ⟨n, h1.2.2.1, kp_x φ W S, h1.2.2.2.2.2.2, h2, fun v hv => hGH v hv n h3⟩
end ZGj
