section ZMa
def zPr (p : Int) : Prop := p = 2 ∨ p = 3 ∨ p = 5 ∨ p = 7 ∨ p = 11 ∨ p = 13 ∨ p = 17 ∨ p = 19 ∨ p = 23 ∨ p = 29 ∨ p = 31
theorem zPr_2 {p : Int} (h : zPr p) : 2 ≤ p ∧ p ≤ 31 := by unfold zPr at h; omega
/-- nothing beyond DEGREE 4 -/
def zflt (c : Nat → Int) : Prop := ∀ i j : Nat, i < 5 → j < 5 → 4 < i + j → c (5 * i + j) = 0
def zBx (M : zCt) : Prop := zPr (M.1 0 3) ∧ (∀ c : Nat, (c : Int) < M.1 0 4 → zflt (M.2.1 c)) ∧ ∀ j : Nat, (j : Int) < M.1 0 5 → ∀ c : Nat, (c : Int) < M.1 41 (zBix (M.1 0 6) j) → zflt (M.2.2.2.1 (zBix (M.1 0 6) j) c)
/-- the bond of the two states -/
def zBm (i : Int) (M : zCt) (S : zS2) : Prop := zBl i M S ∧ zBx M
/-- what the tools of the model may change -/
def zFm (S U : zS2) : Prop := ∀ k i : Nat, ¬ (k = 4 ∨ (9 ≤ k ∧ k ≤ 19)) → ¬ (k = 3 ∧ 3500 ≤ i) → ¬ (k = 0 ∧ (i = 23 ∨ i = 24 ∨ i = 26 ∨ i = 33)) → U k i = S k i
theorem zFm.rf {S : zS2} : zFm S S := fun _ _ _ _ _ => rfl
theorem zFm.tr {S U V : zS2} (h : zFm S U) (h2 : zFm U V) : zFm S V := fun k i a b c => (h2 k i a b c).trans (h k i a b c)
theorem zFm_za {S : zS2} {k i : Nat} {x : Int} (h : (k = 4 ∨ (9 ≤ k ∧ k ≤ 19)) ∨ (k = 3 ∧ 3500 ≤ i) ∨ (k = 0 ∧ (i = 23 ∨ i = 24 ∨ i = 26 ∨ i = 33))) : zFm S (za S k i x) := fun a b h1 h2 h3 => za_ne (fun q => by omega)
theorem zFm.za {S U : zS2} {k i : Nat} {x : Int} (hU : zFm S U) (h : (k = 4 ∨ (9 ≤ k ∧ k ≤ 19)) ∨ (k = 3 ∧ 3500 ≤ i) ∨ (k = 0 ∧ (i = 23 ∨ i = 24 ∨ i = 26 ∨ i = 33))) : zFm S (za U k i x) := hU.tr (zFm_za h)
theorem zFm_for {σ : Type} (pr : σ → zS2) {step : Int → σ → σ} {a : Int} {s : σ} (h : ∀ i x, a ≤ i → zFm (pr x) (pr (step i x))) : ∀ n, zFm (pr s) (pr (zfor step a s n))
  | 0 => zFm.rf
  | n + 1 => (zFm_for pr h n).tr (h _ _ (by omega))
theorem zFm_forD {σ : Type} (pr : σ → zS2) {step : Int → σ → σ} {b : Int} {s : σ} : ∀ n : Nat, (∀ i x, b - n < i → zFm (pr x) (pr (step i x))) → zFm (pr s) (pr (zforD step b s n))
  | 0, _ => zFm.rf
  | n + 1, h => (zFm_forD pr n (fun i x hi => h i x (by omega))).tr (h _ _ (by omega))
theorem zFm.p {S U : zS2} (h : zFm S U) : U 0 10 = S 0 10 := h 0 10 (by omega) (by omega) (by omega)
theorem zFm.n {S U : zS2} (h : zFm S U) : U 0 13 = S 0 13 := h 0 13 (by omega) (by omega) (by omega)
theorem zFm.c {S U : zS2} (h : zFm S U) {q : Nat} (hq : q < 3500) : U 3 q = S 3 q := h 3 q (by omega) (by omega) (by omega)
theorem zVE.p {N M : zCt} (h : zVE N M) : N.1 0 3 = M.1 0 3 := h.2 0 3 (by omega) (by omega)
theorem zVE.n {N M : zCt} (h : zVE N M) : N.1 0 4 = M.1 0 4 := h.2 0 4 (by omega) (by omega)
theorem zBx.same {M N : zCt} (h : zBx M) (h3 : N.1 0 3 = M.1 0 3) (h4 : N.1 0 4 = M.1 0 4) (h5 : N.1 0 5 = M.1 0 5) (h6 : N.1 0 6 = M.1 0 6) (h41 : N.1 41 = M.1 41) (hc : N.2.1 = M.2.1) (hd : N.2.2.2.1 = M.2.2.2.1) : zBx N := by
  unfold zBx
  rw [h3, h4, h5, h6, h41, hc, hd]
  exact h
theorem zVE.x {N M : zCt} (hM : zVE N M) (h : zBx M) : zBx N := h.same (hM.2 0 3 (by omega) (by omega)) (hM.2 0 4 (by omega) (by omega)) (hM.2 0 5 (by omega) (by omega)) (hM.2 0 6 (by omega) (by omega)) (funext fun i => hM.2 41 i (by omega) (by omega)) (by rw [hM.1]) (by rw [hM.1])
/-- a question changes nothing that the bond sees -/
theorem zBm_q {i j : Int} {M N : zCt} {S U : zS2} (h : zBm i M S) (hC : zCI M) (hM : zVE N M) (hS : zFm S U) : zBm j N U := by
  have hn := hC.cn
  obtain ⟨⟨h1, h2, h3, h4⟩, hx⟩ := h
  have m : ∀ k i : Nat, ¬ (20 ≤ k ∧ k < 40) → ¬ (k = 0 ∧ 10 ≤ i) → N.1 k i = M.1 k i := hM.2
  have mr : ∀ k : Nat, ¬ (20 ≤ k ∧ k < 40) → k ≠ 0 → N.1 k = M.1 k := fun k a b => funext fun i => m k i a (by omega)
  refine ⟨⟨⟨?_, fun k hk => ?_⟩, h2.same (fun i hi => m 0 i (by omega) (by omega)) (fun i => m 1 i (by omega) (by omega)) (fun i hi => hS 0 i (by omega) (by omega) (by omega)) (fun i => hS 2 i (by omega) (by omega) (by omega)),
    h3.same (m 0 3 (by omega) (by omega)) (m 0 4 (by omega) (by omega)) (mr 3 (by omega) (by omega)) (by rw [hM.1]) (hS 0 10 (by omega) (by omega) (by omega)) (hS 0 13 (by omega) (by omega) (by omega)) (fun i hi => hS 3 i (by omega) (by omega) (by omega)) (fun i _ => hS 5 i (by omega) (by omega) (by omega)) hn.2,
    h4.same (m 0 3 (by omega) (by omega)) (m 0 5 (by omega) (by omega)) (m 0 6 (by omega) (by omega)) (mr 40 (by omega) (by omega)) (mr 41 (by omega) (by omega)) (by rw [hM.1]) (by rw [hM.1]) (hS 0 35 (by omega) (by omega) (by omega)) (fun i => hS 20 i (by omega) (by omega) (by omega))⟩, hM.x hx⟩
  · rw [hS 0 1 (by omega) (by omega) (by omega), m 0 2 (by omega) (by omega)]; exact h1.1
  · rw [hS 1 k (by omega) (by omega) (by omega), m 2 k (by omega) (by omega)]
    exact h1.2 k (by rw [← m 0 2 (by omega) (by omega)]; exact hk)
end ZMa
section ZMb
/-- numbers modulo p, as a field -/
def zKp (K : Type) [Lean.Grind.CommRing K] (p : Int) (φ : Int → K) : Prop := (∀ a b, φ (a + b) = φ a + φ b) ∧ (∀ a b, φ (a * b) = φ a * φ b) ∧ φ 1 = 1 ∧ (∀ a b, φ a = φ b ↔ a % p = b % p) ∧ ka_F K ∧ ∀ x : K, ∃ a, 0 ≤ a ∧ a < p ∧ φ a = x
theorem zKp.ad {K : Type} [Lean.Grind.CommRing K] {p : Int} {φ : Int → K} (h : zKp K p φ) (a b : Int) : φ (a + b) = φ a + φ b := h.1 a b
theorem zKp.ml {K : Type} [Lean.Grind.CommRing K] {p : Int} {φ : Int → K} (h : zKp K p φ) (a b : Int) : φ (a * b) = φ a * φ b := h.2.1 a b
theorem zKp.o {K : Type} [Lean.Grind.CommRing K] {p : Int} {φ : Int → K} (h : zKp K p φ) : φ 1 = 1 := h.2.2.1
theorem zKp.q {K : Type} [Lean.Grind.CommRing K] {p : Int} {φ : Int → K} (h : zKp K p φ) (a b : Int) : φ a = φ b ↔ a % p = b % p := h.2.2.2.1 a b
theorem zKp.F {K : Type} [Lean.Grind.CommRing K] {p : Int} {φ : Int → K} (h : zKp K p φ) : ka_F K := h.2.2.2.2.1
theorem zKp.su {K : Type} [Lean.Grind.CommRing K] {p : Int} {φ : Int → K} (h : zKp K p φ) (x : K) : ∃ a, 0 ≤ a ∧ a < p ∧ φ a = x := h.2.2.2.2.2 x
theorem zKp.z {K : Type} [Lean.Grind.CommRing K] {p : Int} {φ : Int → K} (h : zKp K p φ) : φ 0 = 0 := by
  have e : φ (0 + 0) = φ 0 + φ 0 := h.ad 0 0
  rw [show (0 : Int) + 0 = 0 by omega] at e
  grind
theorem zKp.ng {K : Type} [Lean.Grind.CommRing K] {p : Int} {φ : Int → K} (h : zKp K p φ) (a : Int) : φ (-a) = - φ a := by
  have e : φ (-a + a) = φ (-a) + φ a := h.ad _ _
  rw [show -a + a = 0 by omega, h.z] at e
  grind
theorem zKp.sb {K : Type} [Lean.Grind.CommRing K] {p : Int} {φ : Int → K} (h : zKp K p φ) (a b : Int) : φ (a - b) = φ a - φ b := by
  rw [show a - b = a + -b by omega, h.ad, h.ng]; grind
theorem zKp.em {K : Type} [Lean.Grind.CommRing K] {p : Int} {φ : Int → K} (h : zKp K p φ) (a : Int) : φ (a % p) = φ a := (h.q _ _).2 (Int.emod_emod_of_dvd a (Int.dvd_refl p))
theorem zKp.pz {K : Type} [Lean.Grind.CommRing K] {p : Int} {φ : Int → K} (h : zKp K p φ) : φ p = 0 := by
  rw [← h.em, Int.emod_self, h.z]
theorem zKp.tm {K : Type} [Lean.Grind.CommRing K] {p : Int} {φ : Int → K} (h : zKp K p φ) (a : Int) : φ (Int.tmod a p) = φ a := by
  rw [Int.tmod_def, h.sb, h.ml, h.pz]; grind
theorem zKp.zz {K : Type} [Lean.Grind.CommRing K] {p : Int} {φ : Int → K} (h : zKp K p φ) (a : Int) : φ a = 0 ↔ a % p = 0 := by
  rw [← h.z, h.q, Int.zero_emod]
theorem zKp.z0 {K : Type} [Lean.Grind.CommRing K] {p : Int} {φ : Int → K} (h : zKp K p φ) {a : Int} (h0 : 0 ≤ a ∧ a < p) : φ a = 0 ↔ a = 0 := by
  rw [h.zz, Int.emod_eq_of_lt h0.1 h0.2]
theorem zKp.ij {K : Type} [Lean.Grind.CommRing K] {p : Int} {φ : Int → K} (h : zKp K p φ) {a b : Int} (h0 : 0 ≤ a ∧ a < p) (h1 : 0 ≤ b ∧ b < p) (e : φ a = φ b) : a = b := by
  have := (h.q a b).1 e
  rwa [Int.emod_eq_of_lt h0.1 h0.2, Int.emod_eq_of_lt h1.1 h1.2] at this
abbrev ka_of {K : Type} [i : Lean.Grind.CommRing K] : Lean.Grind.CommRing K := i
theorem zKp_fin (n : Nat) [NeZero n] (h1 : (1 : Fin n) ≠ 0) (hF : ∀ a : Fin n, a ≠ 0 → ∃ b, a * b = 1) : ∃ (K : Type) (i : Lean.Grind.CommRing K) (φ : Int → K), @zKp K i (n : Int) φ := by
  refine ⟨Fin n, ka_of, fun a => @Int.cast (Fin n) Lean.Grind.Ring.intCast a, Lean.Grind.Ring.intCast_add, Lean.Grind.Ring.intCast_mul, Lean.Grind.Ring.intCast_one, fun a b => Lean.Grind.IsCharP.intCast_ext_iff n, ⟨h1, hF⟩, fun x => ⟨(x.val : Int), by omega, by have := x.isLt; omega, ?_⟩⟩
  show @Int.cast (Fin n) Lean.Grind.Ring.intCast (x.val : Int) = x
  rw [Lean.Grind.Ring.intCast_natCast]
  show Fin.ofNat n x.val = x
  exact Fin.ext (Nat.mod_eq_of_lt x.isLt)
theorem zKp_ex {p : Int} (h : zPr p) : ∃ (K : Type) (i : Lean.Grind.CommRing K) (φ : Int → K), @zKp K i p φ := by
  rcases h with h | h | h | h | h | h | h | h | h | h | h
  · rw [h]; exact zKp_fin 2 (by decide) (by decide +kernel)
  · rw [h]; exact zKp_fin 3 (by decide) (by decide +kernel)
  · rw [h]; exact zKp_fin 5 (by decide) (by decide +kernel)
  · rw [h]; exact zKp_fin 7 (by decide) (by decide +kernel)
  · rw [h]; exact zKp_fin 11 (by decide) (by decide +kernel)
  · rw [h]; exact zKp_fin 13 (by decide) (by decide +kernel)
  · rw [h]; exact zKp_fin 17 (by decide) (by decide +kernel)
  · rw [h]; exact zKp_fin 19 (by decide) (by decide +kernel)
  · rw [h]; exact zKp_fin 23 (by decide) (by decide +kernel)
  · rw [h]; exact zKp_fin 29 (by decide) (by decide +kernel)
  · rw [h]; exact zKp_fin 31 (by decide) (by decide +kernel)
/-- a loop that adds -/
theorem zK_acc {K : Type} [Lean.Grind.CommRing K] {σ : Type} (ob : σ → K) {step : Int → σ → σ} {a : Int} {s : σ} {F : Nat → K} : ∀ n : Nat, (∀ (k : Nat) x, k < n → ob (step (a + k) x) = ob x + F k) → ob (zfor step a s n) = ob s + ka_s F n
  | 0, _ => by show ob s = ob s + 0; grind
  | n + 1, h => by
    show ob (step (a + n) (zfor step a s n)) = ob s + (ka_s F n + F n)
    rw [h n _ (by omega), zK_acc ob n (fun k x hk => h k x (by omega))]; grind
/-- Horner -/
theorem zK_horn {K : Type} [Lean.Grind.CommRing K] {σ : Type} (ob : σ → K) {step : Int → σ → σ} {s : σ} {y : K} {a : Nat → K} (b : Nat) (h0 : ob s = 0) (hs : ∀ (j : Nat) q, j ≤ b → ob (step j q) = ob q * y + a j) : ∀ k, k ≤ b + 1 → ob (zforD step b s k) * y ^ (b + 1 - k) = ka_s (fun t => a (b - t) * y ^ (b - t)) k
  | 0, _ => by show ob s * y ^ (b + 1 - 0) = 0; rw [h0]; grind
  | k + 1, hk => by
    show ob (step ((b : Int) - k) (zforD step b s k)) * y ^ (b + 1 - (k + 1)) = ka_s (fun t => a (b - t) * y ^ (b - t)) k + a (b - k) * y ^ (b - k)
    have ih := zK_horn ob b h0 hs k (by omega)
    rw [show b + 1 - k = (b - k) + 1 by omega, Lean.Grind.Semiring.pow_succ] at ih
    rw [show (b : Int) - k = ((b - k : Nat) : Int) by omega, hs _ _ (by omega), show b + 1 - (k + 1) = b - k by omega, ← ih]; grind
theorem zK_hor {K : Type} [Lean.Grind.CommRing K] {σ : Type} (ob : σ → K) {step : Int → σ → σ} {s : σ} {y : K} {a : Nat → K} (b : Nat) (h0 : ob s = 0) (hs : ∀ (j : Nat) q, j ≤ b → ob (step j q) = ob q * y + a j) : ob (zforD step b s (b + 1)) = ka_s (fun j => a j * y ^ j) (b + 1) := by
  have h := zK_horn ob b h0 hs (b + 1) (Nat.le_refl _)
  rw [show b + 1 - (b + 1) = 0 by omega, Lean.Grind.Semiring.pow_zero] at h
  rw [ka_s_rev]
  have e : ka_s (fun i => a (b + 1 - 1 - i) * y ^ (b + 1 - 1 - i)) (b + 1) = ka_s (fun t => a (b - t) * y ^ (b - t)) (b + 1) := rfl
  rw [e, ← h]; grind
theorem zfor_ix {σ : Type} {step : Int → σ → σ} {a : Int} {s : σ} (I : Nat → σ → Prop) (h0 : I 0 s) : ∀ n : Nat, (∀ (k : Nat) x, k < n → I k x → I (k + 1) (step (a + k) x)) → I n (zfor step a s n)
  | 0, _ => h0
  | n + 1, h => h n _ (by omega) (zfor_ix I h0 n (fun k x hk => h k x (by omega)))
end ZMb
section ZMc
/-- the DEGREE, by what it is -/
def zTI (c : Nat → Int) (P : Nat → Nat → Prop) (t : Int) : Prop := (∀ i j : Nat, P i j → c (5 * i + j) ≠ 0 → ((i + j : Nat) : Int) ≤ t) ∧ (t = -1 ∨ ∃ i j : Nat, i + j ≤ 4 ∧ ((i + j : Nat) : Int) = t ∧ c (5 * i + j) ≠ 0)
theorem zT_all (c : Nat → Int) : zTI c (fun i j => i + j ≤ 4) (ztop c) := by
  have h : zTI c (fun i j => i < 5 ∧ i + j ≤ 4) (ztop c) := by
    unfold ztop
    refine zfor_ix (I := fun k t => zTI c (fun i j => i < k ∧ i + j ≤ 4) t) ⟨fun i j h => absurd h.1 (Nat.not_lt_zero _), Or.inl rfl⟩ 5 (fun k t hk ht => ?_)
    have h2 : zTI c (fun i j => (i < k ∧ i + j ≤ 4) ∨ (i = k ∧ j < 5 - k)) (zfor (ztop_in c (0 + k)) 0 t (5 - k)) := by
      refine zfor_ix (I := fun l t => zTI c (fun i j => (i < k ∧ i + j ≤ 4) ∨ (i = k ∧ j < l)) t) ⟨fun i j h => ht.1 i j (by omega), ht.2⟩ (5 - k) (fun l u hl hu => ?_)
      show zTI c (fun i j => (i < k ∧ i + j ≤ 4) ∨ (i = k ∧ j < l + 1)) (if c ((0 + (k : Int)) * 5 + (0 + (l : Int))).toNat ≠ 0 then max u (0 + (k : Int) + (0 + (l : Int))) else u)
      rw [show ((0 + (k : Int)) * 5 + (0 + (l : Int))).toNat = 5 * k + l by omega]
      by_cases e : c (5 * k + l) ≠ 0
      · rw [if_pos e]
        refine ⟨fun i j hij hc => ?_, Or.inr ?_⟩
        · by_cases q : i = k ∧ j = l
          · omega
          · have := hu.1 i j (by omega) hc
            omega
        · by_cases q : u ≤ 0 + (k : Int) + (0 + (l : Int))
          · exact ⟨k, l, by omega, by omega, e⟩
          · rcases hu.2 with z | ⟨i, j, z1, z2, z3⟩
            · omega
            · exact ⟨i, j, z1, by omega, z3⟩
      · rw [if_neg e]
        refine ⟨fun i j hij hc => ?_, hu.2⟩
        by_cases q : i = k ∧ j = l
        · rw [q.1, q.2] at hc; exact absurd hc e
        · exact hu.1 i j (by omega) hc
    have e : ztop_out c (0 + k) t = zfor (ztop_in c (0 + k)) 0 t (5 - k) := by
      show zfor (ztop_in c (0 + k)) 0 t (4 - (0 + (k : Int)) + 1 - 0).toNat = _
      rw [show (4 - (0 + (k : Int)) + 1 - 0).toNat = 5 - k by omega]
    rw [e]
    exact ⟨fun i j hij => h2.1 i j (by omega), h2.2⟩
  exact ⟨fun i j hij => h.1 i j (by omega), h.2⟩
theorem zT_le (c : Nat → Int) : -1 ≤ ztop c ∧ ztop c ≤ 4 := by
  rcases (zT_all c).2 with h | ⟨i, j, h1, h2, _⟩ <;> omega
theorem zT_z {c : Nat → Int} {i j : Nat} (h : i + j ≤ 4) (h2 : ztop c < ((i + j : Nat) : Int)) : c (5 * i + j) = 0 :=
  Classical.byContradiction fun q => by have := (zT_all c).1 i j h q; omega
theorem zT_ex {c : Nat → Int} (h : 0 ≤ ztop c) : ∃ i j : Nat, i + j ≤ 4 ∧ ((i + j : Nat) : Int) = ztop c ∧ c (5 * i + j) ≠ 0 := by
  rcases (zT_all c).2 with q | q
  · omega
  · exact q
end ZMc
