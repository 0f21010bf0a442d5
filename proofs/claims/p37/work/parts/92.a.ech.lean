section ZEa
/-- rows that lie in steps: 1 where a row begins, 0 ahead of it -/
def ke_E {K : Type} [Lean.Grind.CommRing K] (φ : Int → K) (lim : Nat) (Kn : Nat → Int) (R : Nat → Nat → Int) : Prop := ∀ q, q < lim → Kn q ≠ 0 → φ (R q q) = 1 ∧ ∀ k, k < q → φ (R q k) = 0
/-- what they make, as far as the first W numbers go -/
def ke_S {K : Type} [Lean.Grind.CommRing K] (φ : Int → K) (W lim : Nat) (Kn : Nat → Int) (R : Nat → Nat → Int) (v : Nat → K) : Prop := ∃ α : Nat → K, (∀ q, Kn q = 0 → α q = 0) ∧ ∀ k, k < W → v k = ka_s (fun q => α q * φ (R q k)) lim
theorem ke_S_zero {K : Type} [Lean.Grind.CommRing K] {φ : Int → K} {W lim : Nat} {Kn : Nat → Int} {R : Nat → Nat → Int} : ke_S φ W lim Kn R (fun _ => 0) := ⟨fun _ => 0, fun _ _ => rfl, fun k _ => (ka_s_zero _ (fun q _ => ka_zm _)).symm⟩
theorem ke_S_add {K : Type} [Lean.Grind.CommRing K] {φ : Int → K} {W lim : Nat} {Kn : Nat → Int} {R : Nat → Nat → Int} {v w : Nat → K} (hv : ke_S φ W lim Kn R v) (hw : ke_S φ W lim Kn R w) (c : K) : ke_S φ W lim Kn R (fun k => v k + c * w k) := by
  obtain ⟨a, a0, a1⟩ := hv
  obtain ⟨b, b0, b1⟩ := hw
  refine ⟨fun q => a q + c * b q, fun q hq => ?_, fun k hk => ?_⟩
  · show a q + c * b q = 0
    rw [a0 q hq, b0 q hq, ka_mz, ka_az]
  · show v k + c * w k = _
    rw [a1 k hk, b1 k hk, ← ka_s_mul, ← ka_s_add]
    exact ka_s_congr _ (fun q _ => ka_rg5 _ _ _ _)
theorem ke_S_congr {K : Type} [Lean.Grind.CommRing K] {φ : Int → K} {W lim : Nat} {Kn : Nat → Int} {R : Nat → Nat → Int} {v w : Nat → K} (hv : ke_S φ W lim Kn R v) (e : ∀ k, k < W → w k = v k) : ke_S φ W lim Kn R w := by
  obtain ⟨a, a0, a1⟩ := hv
  exact ⟨a, a0, fun k hk => by rw [e k hk, a1 k hk]⟩
theorem ke_S_mono {K : Type} [Lean.Grind.CommRing K] {φ : Int → K} {W V lim : Nat} {Kn : Nat → Int} {R : Nat → Nat → Int} {v : Nat → K} (hv : ke_S φ W lim Kn R v) (h : V ≤ W) : ke_S φ V lim Kn R v := by
  obtain ⟨a, a0, a1⟩ := hv
  exact ⟨a, a0, fun k hk => a1 k (by omega)⟩
/-- what they make begins where a row begins -/
theorem ke_lead {K : Type} [Lean.Grind.CommRing K] {φ : Int → K} {lim : Nat} {Kn : Nat → Int} {R : Nat → Nat → Int} (hE : ke_E φ lim Kn R) {v : Nat → K} (hv : ke_S φ lim lim Kn R v) {q : Nat} (hq : q < lim) (h0 : ∀ k, k < q → v k = 0) (h1 : v q ≠ 0) : Kn q ≠ 0 := by
  obtain ⟨a, a0, a1⟩ := hv
  have one : ∀ k, k < lim → (∀ j, j < k → a j = 0) → v k = a k * φ (R k k) := fun k hk hj => by
    rw [a1 k hk, ka_s_one (k := k) lim hk (fun j hjl hne => by
      by_cases l : j < k
      · rw [hj j l, ka_zm]
      · by_cases z : Kn j = 0
        · rw [a0 j z, ka_zm]
        · rw [(hE j hjl z).2 k (by omega), ka_mz])]
  have az : ∀ k, k < q → a k = 0 := by
    intro k
    induction k using Nat.strongRecOn with
    | _ k ih =>
      intro hk
      by_cases z : Kn k = 0
      · exact a0 k z
      · have e := one k (by omega) (fun j hj => ih j hj (by omega))
        rw [(hE k (by omega) z).1, h0 k hk] at e
        grind
  intro z
  apply h1
  rw [one q hq az, a0 q z, ka_zm]
theorem zlin_sp (r : Nat → Int) (o p : Int) (w i : Nat) (c : Nat → Int) (k : Nat) : zlin r o p w i c k = if i ≤ k ∧ k < w then (c k + o * r k) % p else c k := by
  have g : ∀ n k : Nat, zfor (zlin_s r o p) i c n k = if i ≤ k ∧ k < i + n then (c k + o * r k) % p else c k := fun n => by
    induction n with
    | zero => intro k; rw [if_neg (by omega)]; rfl
    | succ n ih =>
      intro k
      show zup (zfor (zlin_s r o p) i c n) ((i : Int) + (n : Int)).toNat (((zfor (zlin_s r o p) i c n) ((i : Int) + (n : Int)).toNat + o * r ((i : Int) + (n : Int)).toNat) % p) k = _
      rw [show ((i : Int) + (n : Int)).toNat = i + n by omega, ih (i + n), if_neg (by omega)]
      unfold zup
      by_cases e : k = i + n
      · rw [if_pos e, if_pos (by omega), e]
      · rw [if_neg e, ih]
        by_cases l : i ≤ k ∧ k < i + n
        · rw [if_pos l, if_pos (by omega)]
        · rw [if_neg l, if_neg (by omega)]
  unfold zlin
  rw [g]
  by_cases l : i ≤ k ∧ k < w
  · rw [if_pos l, if_pos (by omega)]
  · rw [if_neg l, if_neg (by omega)]
/-- a line goes down by the rows -/
theorem ke_red {K : Type} [Lean.Grind.CommRing K] {p : Int} {φ : Int → K} (h : zKp K p φ) (hp : 0 < p) {w lim : Nat} (hw : lim ≤ w) {Kn : Nat → Int} {R : Nat → Nat → Int} (hE : ke_E φ lim Kn R) : ∀ (n i : Nat) (c : Nat → Int), i + n = lim → zcan p c → (∀ k, k < i → c k = 0) →
    zcan p (zsp Kn R w p n i c).2 ∧ (∃ α : Nat → K, (∀ q, Kn q = 0 → α q = 0) ∧ ∀ k, k < w → φ (c k) = φ ((zsp Kn R w p n i c).2 k) + ka_s (fun q => α q * φ (R q k)) lim) ∧ (((zsp Kn R w p n i c).1 = none ∧ ∀ k, k < lim → (zsp Kn R w p n i c).2 k = 0) ∨ ∃ q : Nat, (zsp Kn R w p n i c).1 = some (q : Int) ∧ q < lim ∧ Kn q = 0 ∧ (zsp Kn R w p n i c).2 q ≠ 0 ∧ ∀ k, k < q → (zsp Kn R w p n i c).2 k = 0)
  | 0, i, c, hi, hc, hz => ⟨hc, ⟨fun _ => 0, fun _ _ => rfl, fun k _ => by
      rw [ka_s_zero _ (fun q _ => ka_zm _)]; exact (ka_az _).symm⟩, Or.inl ⟨rfl, fun k hk => hz k (by omega)⟩⟩
  | n + 1, i, c, hi, hc, hz => by
    have e : zsp Kn R w p (n + 1) i c = (if c i = 0 then zsp Kn R w p n ((i + 1 : Nat) : Int) c else if Kn i = 0 then (some (i : Int), c) else zsp Kn R w p n ((i + 1 : Nat) : Int) (zlin (R i) (p - c i) p w i c)) := rfl
    rw [e]
    by_cases c0 : c i = 0
    · rw [if_pos c0]
      exact ke_red h hp hw hE n (i + 1) c (by omega) hc (fun k hk => by
        by_cases q : k = i
        · rw [q]; exact c0
        · exact hz k (by omega))
    · rw [if_neg c0]
      by_cases k0 : Kn i = 0
      · rw [if_pos k0]
        exact ⟨hc, ⟨fun _ => 0, fun _ _ => rfl, fun k _ => by
          rw [ka_s_zero _ (fun q _ => ka_zm _)]; exact (ka_az _).symm⟩, Or.inr ⟨i, rfl, by omega, k0, c0, hz⟩⟩
      · rw [if_neg k0]
        obtain ⟨e1, e2⟩ := hE i (by omega) k0
        have sp := zlin_sp (R i) (p - c i) p w i c
        obtain ⟨d, hd⟩ : ∃ d, d = zlin (R i) (p - c i) p w i c := ⟨_, rfl⟩
        rw [← hd] at sp ⊢
        have dc : zcan p d := fun k => by
          rw [sp]
          split
          · exact ⟨Int.emod_nonneg _ (by omega), Int.emod_lt_of_pos _ hp⟩
          · exact hc k
        have df : ∀ k, k < w → φ (c k) = φ (d k) + φ (c i) * φ (R i k) := fun k hk => by
          rw [sp]
          by_cases l : i ≤ k
          · rw [if_pos ⟨l, hk⟩, h.em, h.ad, h.ml, h.sb, h.pz]; grind
          · rw [if_neg (fun z => l z.1), e2 k (by omega), ka_mz, ka_az]
        have di : d i = 0 := (h.z0 (dc i)).1 (by
          have := df i (by omega)
          rw [e1] at this
          grind)
        obtain ⟨r1, ⟨α, r2, r3⟩, r4⟩ := ke_red h hp hw hE n (i + 1) d (by omega) dc (fun k hk => by
          by_cases q : k = i
          · rw [q]; exact di
          · rw [sp, if_neg (by omega)]; exact hz k (by omega))
        refine ⟨r1, ⟨fun q => α q + (if q = i then φ (c i) else 0), fun q hq => ?_, fun k hk => ?_⟩, r4⟩
        · show α q + (if q = i then φ (c i) else 0) = 0
          rw [r2 q hq, if_neg (fun z => by rw [z] at hq; exact k0 hq), ka_az]
        · rw [df k hk, r3 k hk]
          have e4 : ka_s (fun q => (α q + (if q = i then φ (c i) else 0)) * φ (R q k)) lim = ka_s (fun q => α q * φ (R q k)) lim + φ (c i) * φ (R i k) := by
            have e5 : ka_s (fun q => (if q = i then φ (c i) else 0) * φ (R q k)) lim = φ (c i) * φ (R i k) := by
              rw [ka_s_one (k := i) lim (by omega) (fun q _ hne => by
                show (if q = i then φ (c i) else 0) * φ (R q k) = 0
                rw [if_neg hne, ka_zm])]
              show (if i = i then φ (c i) else 0) * φ (R i k) = _
              rw [if_pos rfl]
            rw [← e5, ← ka_s_add]
            exact ka_s_congr _ (fun q _ => by
              show (α q + (if q = i then φ (c i) else 0)) * φ (R q k) = α q * φ (R q k) + (if q = i then φ (c i) else 0) * φ (R q k)
              exact Lean.Grind.Semiring.right_distrib _ _ _)
          rw [e4]
          exact Lean.Grind.Semiring.add_assoc _ _ _
end ZEa
