section ZJc
/-- a grid of the model holds it -/
def zgE (S : zS2) (g : Nat) (c : Nat → Int) : Prop := ∀ q : Nat, q < 25 → S 3 (25 * g + q) = c q
theorem zgE.fr {S S' : zS2} {g : Nat} {c : Nat → Int} (h : zgE S g c) (e : ∀ i : Nat, 25 * g ≤ i → i < 25 * g + 25 → S' 3 i = S 3 i) : zgE S' g c := fun q hq => by rw [e _ (by omega) (by omega)]; exact h q hq
theorem zgE.ext {S : zS2} {g : Nat} {c d : Nat → Int} (h : ∀ i j : Nat, i + j ≤ 4 → S 3 (25 * g + (5 * i + j)) = c (5 * i + j)) (fS : ∀ i j : Nat, i < 5 → j < 5 → 4 < i + j → S 3 (25 * g + (5 * i + j)) = 0) (fc : zflt c) : zgE S g c := fun q hq => by
  have e : q = 5 * (q / 5) + q % 5 := by omega
  rw [e]
  by_cases l : q / 5 + q % 5 ≤ 4
  · exact h _ _ l
  · rw [fS _ _ (by omega) (by omega) (by omega), fc _ _ (by omega) (by omega) (by omega)]
theorem zgE.at {S : zS2} {g : Nat} {c : Nat → Int} (h : zgE S g c) {i j : Nat} (hi : i < 5) (hj : j < 5) : S 3 (25 * g + 5 * i + j) = c (5 * i + j) := by
  rw [show 25 * g + 5 * i + j = 25 * g + (5 * i + j) by omega]
  exact h _ (by omega)
theorem zgE.q {K : Type} [Lean.Grind.CommRing K] {φ : Int → K} {S : zS2} {g : Nat} {c : Nat → Int} (h : zgE S g c) : zq φ (zG S g) = zq φ c := zq_congr (fun q hq => h q hq)
theorem zone_flt (n : Int) : zflt (zone n) := fun i j hi hj hij => by
  unfold zone
  rw [if_neg (by omega)]
theorem zaddS_fl' {c d : Nat → Int} {o p : Int} (h : zflt c) : zflt (zaddS c d 0 0 o p) := zaddS_fl h
/-- one level of brackets, both -/
def zLv (p : Int) (k : Nat) (Q S : zS2) : Prop := (zgE S (12 + 3 * k) (Q (20 + k)) ∧ zcan p (Q (20 + k)) ∧ zflt (Q (20 + k))) ∧ (zgE S (13 + 3 * k) (Q (70 + k)) ∧ zcan p (Q (70 + k)) ∧ zflt (Q (70 + k))) ∧ ((Q 2 k = 0 ∧ S 7 k = 1) ∨ (Q 2 k = 1 ∧ S 7 k = -1))
/-- what work at one level leaves -/
def zQf (o : Nat) (Q Q' : zS2) : Prop := Q' 0 3 = Q 0 3 ∧ Q' 0 4 = Q 0 4 ∧ (∀ k, k ≠ 0 → k ≠ 2 → k ≠ 4 → k ≠ 5 → k ≠ 6 → k ≠ 20 + o → k ≠ 70 + o → Q' k = Q k) ∧ ∀ k, k ≠ o → Q' 2 k = Q 2 k
def zSf (o : Nat) (S S' : zS2) : Prop := ∀ a i : Nat, ¬ (a = 0 ∧ 6 ≤ i ∧ i ≤ 9) → ¬ (a = 7 ∧ i = o) → ¬ (a = 3 ∧ 25 * (12 + 3 * o) ≤ i ∧ i < 25 * (12 + 3 * o) + 75) → ¬ a = 4 → ¬ (a = 3 ∧ 3500 ≤ i) → S' a i = S a i
theorem zQf.rf {o : Nat} {Q : zS2} : zQf o Q Q := ⟨rfl, rfl, fun _ _ _ _ _ _ _ _ => rfl, fun _ _ => rfl⟩
theorem zQf.tr {o : Nat} {Q Q' Q'' : zS2} (h : zQf o Q Q') (h2 : zQf o Q' Q'') : zQf o Q Q'' := ⟨h2.1.trans h.1, h2.2.1.trans h.2.1, fun k a b c d e f g => (h2.2.2.1 k a b c d e f g).trans (h.2.2.1 k a b c d e f g), fun k a => (h2.2.2.2 k a).trans (h.2.2.2 k a)⟩
theorem zSf.rf {o : Nat} {S : zS2} : zSf o S S := fun _ _ _ _ _ _ _ => rfl
theorem zSf.tr {o : Nat} {S S' S'' : zS2} (h : zSf o S S') (h2 : zSf o S' S'') : zSf o S S'' := fun a i q1 q2 q3 q4 q5 => (h2 a i q1 q2 q3 q4 q5).trans (h a i q1 q2 q3 q4 q5)
theorem zFs.sf {o : Nat} {S S' : zS2} (h : zFs S S') : zSf o S S' := fun a i q1 _ _ _ _ => h a i q1
theorem zQf_sr (o : Nat) (Q : zS2) (a b c : Int) : zQf o Q (zsr Q a b c) := by
  obtain ⟨_, _, _, r4, r5⟩ := zsr_0 Q a b c
  exact ⟨r4 3 (by decide), r4 4 (by decide), fun k h0 _ _ _ _ _ _ => r5 k h0, fun k _ => by rw [r5 2 (by decide)]⟩
theorem zLv.fr {p : Int} {k o : Nat} {Q S Q' S' : zS2} (h : zLv p k Q S) (hne : k ≠ o) (hk : k ≤ 40) (ho : o ≤ 40) (hQ : zQf o Q Q') (hS : zSf o S S') : zLv p k Q' S' := by
  obtain ⟨⟨a1, a2, a3⟩, ⟨b1, b2, b3⟩, c⟩ := h
  have e1 : Q' (20 + k) = Q (20 + k) := hQ.2.2.1 _ (by omega) (by omega) (by omega) (by omega) (by omega) (by omega) (by omega)
  have e2 : Q' (70 + k) = Q (70 + k) := hQ.2.2.1 _ (by omega) (by omega) (by omega) (by omega) (by omega) (by omega) (by omega)
  refine ⟨⟨?_, by rw [e1]; exact a2, by rw [e1]; exact a3⟩, ⟨?_, by rw [e2]; exact b2, by rw [e2]; exact b3⟩, ?_⟩
  · rw [e1]
    exact a1.fr (fun i h1 h2 => hS 3 i (by omega) (by omega) (by omega) (by omega) (by omega))
  · rw [e2]
    exact b1.fr (fun i h1 h2 => hS 3 i (by omega) (by omega) (by omega) (by omega) (by omega))
  · rw [hQ.2.2.2 k hne, hS 7 k (by omega) (by omega) (by omega) (by omega) (by omega)]
    exact c
end ZJc
