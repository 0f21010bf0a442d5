section ZMk
theorem zferm {p : Int} (h : zPr p) {a : Nat} (h0 : a ≠ 0) (h1 : (a : Int) < p) : ((a : Int) ^ (p - 2).toNat * a) % p = 1 := by
  have g2 : ∀ a : Nat, a < 2 → a ≠ 0 → ((a : Int) ^ 0 * a) % 2 = 1 := by decide +kernel
  have g3 : ∀ a : Nat, a < 3 → a ≠ 0 → ((a : Int) ^ 1 * a) % 3 = 1 := by decide +kernel
  have g5 : ∀ a : Nat, a < 5 → a ≠ 0 → ((a : Int) ^ 3 * a) % 5 = 1 := by decide +kernel
  have g7 : ∀ a : Nat, a < 7 → a ≠ 0 → ((a : Int) ^ 5 * a) % 7 = 1 := by decide +kernel
  have g11 : ∀ a : Nat, a < 11 → a ≠ 0 → ((a : Int) ^ 9 * a) % 11 = 1 := by decide +kernel
  have g13 : ∀ a : Nat, a < 13 → a ≠ 0 → ((a : Int) ^ 11 * a) % 13 = 1 := by decide +kernel
  have g17 : ∀ a : Nat, a < 17 → a ≠ 0 → ((a : Int) ^ 15 * a) % 17 = 1 := by decide +kernel
  have g19 : ∀ a : Nat, a < 19 → a ≠ 0 → ((a : Int) ^ 17 * a) % 19 = 1 := by decide +kernel
  have g23 : ∀ a : Nat, a < 23 → a ≠ 0 → ((a : Int) ^ 21 * a) % 23 = 1 := by decide +kernel
  have g29 : ∀ a : Nat, a < 29 → a ≠ 0 → ((a : Int) ^ 27 * a) % 29 = 1 := by decide +kernel
  have g31 : ∀ a : Nat, a < 31 → a ≠ 0 → ((a : Int) ^ 29 * a) % 31 = 1 := by decide +kernel
  rcases h with h | h | h | h | h | h | h | h | h | h | h
  · subst h; exact g2 a (by omega) h0
  · subst h; exact g3 a (by omega) h0
  · subst h; exact g5 a (by omega) h0
  · subst h; exact g7 a (by omega) h0
  · subst h; exact g11 a (by omega) h0
  · subst h; exact g13 a (by omega) h0
  · subst h; exact g17 a (by omega) h0
  · subst h; exact g19 a (by omega) h0
  · subst h; exact g23 a (by omega) h0
  · subst h; exact g29 a (by omega) h0
  · subst h; exact g31 a (by omega) h0
theorem zKp.pw {K : Type} [Lean.Grind.CommRing K] {p : Int} {φ : Int → K} (h : zKp K p φ) (a : Int) : ∀ k : Nat, φ (a ^ k) = φ a ^ k
  | 0 => by rw [Int.pow_zero, Lean.Grind.Semiring.pow_zero]; exact h.o
  | k + 1 => by rw [Int.pow_succ, Lean.Grind.Semiring.pow_succ, h.ml, h.pw a k]
/-- the model's inverse -/
theorem zK_minv {K : Type} [Lean.Grind.CommRing K] {p : Int} {φ : Int → K} (h : zKp K p φ) (hpr : zPr p) {S : zS2} (hS : S 0 10 = p) {v : Int} (hv : 0 ≤ v ∧ v < p) (h0 : v ≠ 0) : φ (zm_inverse S v) * φ v = 1 := by
  have hp := zPr_2 hpr
  show φ (zm_power S v (S 0 10 - 2)) * φ v = 1
  rw [hS, zK_pow h hS (by omega), ← h.pw, ← h.ml, ← h.o, h.q]
  obtain ⟨a, rfl⟩ : ∃ a : Nat, v = a := ⟨v.toNat, by omega⟩
  rw [zferm hpr (by omega) hv.2]
  exact (Int.emod_eq_of_lt (by omega) (by omega)).symm
theorem zinvF_ok (a p : Int) : ∀ (n : Nat) (k : Int), (∃ k', k ≤ k' ∧ k' < k + n ∧ a * k' % p = 1) → a * zinvF a p n k % p = 1
  | 0, k, ⟨k', h1, h2, _⟩ => by omega
  | n + 1, k, ⟨k', h1, h2, h3⟩ => by
    show a * (if a * k % p = 1 then k else zinvF a p n (k + 1)) % p = 1
    by_cases e : a * k % p = 1
    · rw [if_pos e]; exact e
    · rw [if_neg e]
      refine zinvF_ok a p n (k + 1) ⟨k', ?_, by omega, h3⟩
      by_cases z : k' = k
      · rw [z] at h3; exact absurd h3 e
      · omega
/-- the class's inverse -/
theorem zK_inv {K : Type} [Lean.Grind.CommRing K] {p : Int} {φ : Int → K} (h : zKp K p φ) (hp : 2 ≤ p) {a : Int} (h0 : φ a ≠ 0) : φ a * φ (zinv a p) = 1 := by
  obtain ⟨x, hx⟩ := h.F.2 _ h0
  obtain ⟨k, k0, k1, rfl⟩ := h.su x
  have e : a * k % p = 1 := by
    rw [← h.ml, ← h.o, h.q] at hx
    rw [hx]
    exact Int.emod_eq_of_lt (by omega) (by omega)
  have kn : k ≠ 0 := fun z => by
    rw [z, Int.mul_zero, Int.zero_emod] at e
    omega
  have q := zinvF_ok a p (p - 1).toNat 1 ⟨k, by omega, by omega, e⟩
  rw [← h.ml, ← h.o, h.q]
  show a * zinvF a p (p - 1).toNat 1 % p = _
  rw [q]
  exact (Int.emod_eq_of_lt (by omega) (by omega)).symm
theorem zK_t0 {K : Type} [Lean.Grind.CommRing K] {p : Int} {φ : Int → K} (h : zKp K p φ) (s : Int) : Int.tmod s p = 0 ↔ φ s = 0 := by
  constructor
  · intro e
    rw [← h.tm, e, h.z]
  · intro e
    exact Int.tmod_eq_zero_of_dvd (Int.dvd_of_emod_eq_zero ((h.zz s).1 e))
theorem zK_pow0 {K : Type} [Lean.Grind.CommRing K] (hF : ka_F K) {r : K} (h0 : r ≠ 0) : ∀ k : Nat, r ^ k ≠ 0
  | 0 => by rw [Lean.Grind.Semiring.pow_zero]; exact hF.1
  | k + 1 => by
    rw [Lean.Grind.Semiring.pow_succ]
    intro e
    rcases hF.dom _ _ e with q | q
    · exact zK_pow0 hF h0 k q
    · exact h0 q
theorem zm_bendE {K : Type} [Lean.Grind.CommRing K] {p : Int} {φ : Int → K} (h : zKp K p φ) (hpr : zPr p) {U : zS2} {c : Nat → Int} (hU : U 0 10 = p) (hc : ∀ i j : Nat, i + j ≤ 4 → zm_cell U 141 i j = c (5 * i + j)) (hcan : zcan p c) (hl : zlo c 1) (hl1 : zleast c = 1) : zm_bendHere U = zbend c p := by
  have hp := zPr_2 hpr
  have c10 : zm_cell U 141 1 0 = c 5 := hc 1 0 (by omega)
  have c01 : zm_cell U 141 0 1 = c 1 := hc 0 1 (by omega)
  have a10 : zat c 1 0 = c 5 := zatN (a := 1) (b := 0) (by omega)
  have a01 : zat c 0 1 = c 1 := zatN (a := 0) (b := 1) (by omega)
  have hne : c 5 ≠ 0 ∨ c 1 ≠ 0 := by
    obtain ⟨⟨i, j, h1, h2, h3⟩, _⟩ := hl
    have : (i = 1 ∧ j = 0) ∨ (i = 0 ∧ j = 1) := by omega
    rcases this with ⟨rfl, rfl⟩ | ⟨rfl, rfl⟩
    · exact Or.inl h3
    · exact Or.inr h3
  obtain ⟨a, ea⟩ : ∃ a, a = zm_bendHere_J21 (c 1) := ⟨_, rfl⟩
  obtain ⟨b, eb⟩ : ∃ b, b = zm_bendHere_J31 U (c 5) (c 1) := ⟨_, rfl⟩
  have rr : ∃ r : K, r ≠ 0 ∧ φ (-zat c 0 1 % p) = r * φ a ∧ φ (zat c 1 0) = r * φ b := by
    rw [a10, a01, h.em, h.ng]
    by_cases z : c 1 = 0
    · have z5 : c 5 ≠ 0 := hne.elim id (fun q => absurd z q)
      refine ⟨φ (c 5), fun e => z5 ((h.z0 (hcan 5)).1 e), ?_, ?_⟩
      · rw [ea, z, show zm_bendHere_J21 0 = 0 from if_pos rfl, h.z]; grind
      · rw [eb, z, show zm_bendHere_J31 U (c 5) 0 = 1 from if_pos rfl, h.o]; grind
    · have i1 := zK_minv h hpr hU (hcan 1) z
      refine ⟨- φ (c 1), fun e => z ((h.z0 (hcan 1)).1 (by grind)), ?_, ?_⟩
      · rw [ea, show zm_bendHere_J21 (c 1) = 1 from if_neg z, h.o]; grind
      · have e2 : zm_bendHere_J31 U (c 5) (c 1) = zm_modulo U (((U 0 10) - c 5) * zm_inverse U (c 1)) := if_neg z
        rw [eb, e2, zB_mod hU (by omega), h.em, h.ml, h.sb, hU, h.pz]
        have e3 : - φ (c 1) * ((0 - φ (c 5)) * φ (zm_inverse U (c 1))) = φ (c 5) * (φ (zm_inverse U (c 1)) * φ (c 1)) := by grind
        rw [e3, i1]; grind
  obtain ⟨r, r0, ru, rv⟩ := rr
  have sm : ∀ n : Nat, n ≤ 4 → φ (zfor (zm_bendHere_L73 U a b n) 0 0 (n + 1)) = ka_s (fun i => φ (c (5 * i + (n - i))) * φ a ^ i * φ b ^ (n - i)) (n + 1) := fun n hn => by
    rw [zK_acc φ (F := fun i => φ (c (5 * i + (n - i))) * φ a ^ i * φ b ^ (n - i)) (n + 1) (fun i x hi => ?_), h.z]
    · grind
    show φ (x + Int.tmod ((Int.tmod (zm_cell U 141 (0 + (i : Int)) ((n : Int) - (0 + (i : Int))) * zm_power U a (0 + (i : Int))) (U 0 10)) * zm_power U b ((n : Int) - (0 + (i : Int)))) (U 0 10)) = _
    rw [show 0 + (i : Int) = (i : Int) by omega, show ((n : Int) - (i : Int)) = ((n - i : Nat) : Int) by omega, hc i (n - i) (by omega), h.ad, hU, h.tm, h.ml, h.tm, h.ml, zK_pow h hU (by omega), zK_pow h hU (by omega), Int.toNat_natCast, Int.toNat_natCast]
  have sc : ∀ n : Nat, n ≤ 4 → φ (zbsum c p (-zat c 0 1 % p) (zat c 1 0) n) = r ^ n * ka_s (fun i => φ (c (5 * i + (n - i))) * φ a ^ i * φ b ^ (n - i)) (n + 1) := fun n hn => by
    unfold zbsum
    rw [show ((n : Int) + 1 - 0).toNat = n + 1 by omega, zK_acc φ (F := fun i => r ^ n * (φ (c (5 * i + (n - i))) * φ a ^ i * φ b ^ (n - i))) (n + 1) (fun i x hi => ?_), h.z, ka_s_mul]
    · grind
    unfold zbsum_s
    rw [show 0 + (i : Int) = (i : Int) by omega, show ((n : Int) - (i : Int)) = ((n - i : Nat) : Int) by omega, zatN (by omega), h.em, h.ad, h.ml, h.ml, zK_pw h, zK_pw h, ru, rv, Lean.Grind.CommSemiring.mul_pow, Lean.Grind.CommSemiring.mul_pow, Int.toNat_natCast, Int.toNat_natCast, show r ^ n = r ^ i * r ^ (n - i) from by rw [← Lean.Grind.Semiring.pow_add, show i + (n - i) = n by omega]]
    grind
  have eqv : ∀ n : Nat, n ≤ 4 → (Int.tmod (zfor (zm_bendHere_L73 U a b n) 0 0 (n + 1)) (U 0 10) = 0 ↔ zbsum c p (-zat c 0 1 % p) (zat c 1 0) n = 0) := fun n hn => by
    have rg : 0 ≤ zbsum c p (-zat c 0 1 % p) (zat c 1 0) n ∧ zbsum c p (-zat c 0 1 % p) (zat c 1 0) n < p := by
      unfold zbsum
      exact zfor_inv (fun x : Int => 0 ≤ x ∧ x < p) ⟨by omega, by omega⟩ (fun i x _ => ⟨Int.emod_nonneg _ (by omega), Int.emod_lt_of_pos _ (by omega)⟩) _
    rw [hU, zK_t0 h, sm n hn, ← h.z0 rg, sc n hn]
    constructor
    · intro e; rw [e]; grind
    · intro e
      rcases h.F.dom _ _ e with q | q
      · exact absurd q (zK_pow0 h.F r0 n)
      · exact q
  have n1 : Int.tmod (zfor (zm_bendHere_L73 U a b 1) 0 0 2) (U 0 10) = 0 := by
    have e := sm 1 (by omega)
    rw [hU, zK_t0 h]
    show φ (zfor (zm_bendHere_L73 U a b ((1 : Nat) : Int)) 0 0 (1 + 1)) = 0
    rw [e]
    have : r * ka_s (fun i => φ (c (5 * i + (1 - i))) * φ a ^ i * φ b ^ (1 - i)) (1 + 1) = 0 := by
      show r * ((0 + φ (c 1) * φ a ^ 0 * φ b ^ 1) + φ (c 5) * φ a ^ 1 * φ b ^ 0) = 0
      rw [Lean.Grind.Semiring.pow_zero, Lean.Grind.Semiring.pow_zero, Lean.Grind.Semiring.pow_one, Lean.Grind.Semiring.pow_one]
      rw [a01, h.em, h.ng] at ru
      rw [a10] at rv
      grind
    rcases h.F.dom _ _ this with q | q
    · exact absurd q r0
    · exact q
  have lp : ∀ m d : Nat, d + m = 5 → 1 ≤ d → ∀ fu : Nat, m < fu → zm_bendHere_W61 U a b fu d = (if zbendF c p (-zat c 0 1 % p) (zat c 1 0) m d = -2 then Sum.inr 5 else Sum.inl (zbendF c p (-zat c 0 1 % p) (zat c 1 0) m d)) := by
    intro m
    induction m with
    | zero =>
      intro d hd hd1 fu hfu
      obtain ⟨f, rfl⟩ : ∃ f, fu = f + 1 := ⟨fu - 1, by omega⟩
      have e0 : zm_bendHere_W61 U a b (f + 1) d = (if 4 < (d : Int) then Sum.inr (d : Int) else (if Int.tmod (zfor (zm_bendHere_L73 U a b d) 0 0 ((d : Int) + 1 - 0).toNat) (U 0 10) = 0 then zm_bendHere_W61 U a b f ((d : Int) + 1) else Sum.inl (d : Int))) := rfl
      rw [e0, if_pos (by omega), if_pos (show zbendF c p (-zat c 0 1 % p) (zat c 1 0) 0 d = -2 from rfl), show (d : Int) = 5 by omega]
    | succ m ih =>
      intro d hd hd1 fu hfu
      obtain ⟨f, rfl⟩ : ∃ f, fu = f + 1 := ⟨fu - 1, by omega⟩
      have e1 : zm_bendHere_W61 U a b (f + 1) d = (if Int.tmod (zfor (zm_bendHere_L73 U a b d) 0 0 (d + 1)) (U 0 10) = 0 then zm_bendHere_W61 U a b f ((d : Int) + 1) else Sum.inl (d : Int)) := by
        show (if 4 < (d : Int) then Sum.inr (d : Int) else (if Int.tmod (zfor (zm_bendHere_L73 U a b d) 0 0 ((d : Int) + 1 - 0).toNat) (U 0 10) = 0 then zm_bendHere_W61 U a b f ((d : Int) + 1) else Sum.inl (d : Int))) = _
        rw [if_neg (by omega), show ((d : Int) + 1 - 0).toNat = d + 1 by omega]
      have e2 : zbendF c p (-zat c 0 1 % p) (zat c 1 0) (m + 1) d = (if zbsum c p (-zat c 0 1 % p) (zat c 1 0) d = 0 then zbendF c p (-zat c 0 1 % p) (zat c 1 0) m ((d : Int) + 1) else (d : Int)) := rfl
      rw [e1, e2]
      by_cases z : zbsum c p (-zat c 0 1 % p) (zat c 1 0) d = 0
      · rw [if_pos ((eqv d (by omega)).2 z), if_pos z, show (d : Int) + 1 = ((d + 1 : Nat) : Int) by omega]
        exact ih (d + 1) (by omega) (by omega) f (by omega)
      · rw [if_neg (fun q => z ((eqv d (by omega)).1 q)), if_neg z, if_neg (by omega)]
  have em : zm_bendHere U = zsum (zm_bendHere_W61 U a b 6 1) (fun r61 => r61) (fun n61 => -2) := by
    unfold zm_bendHere
    rw [c10, c01, ea, eb]
    rfl
  have e6 : zm_bendHere_W61 U a b 6 1 = zm_bendHere_W61 U a b 5 2 := by
    show (if 4 < (1 : Int) then Sum.inr (1 : Int) else (if Int.tmod (zfor (zm_bendHere_L73 U a b 1) 0 0 2) (U 0 10) = 0 then zm_bendHere_W61 U a b 5 (1 + 1) else Sum.inl (1 : Int))) = _
    rw [if_neg (by decide), if_pos n1]
    rfl
  have l2 := lp 3 2 rfl (by omega) 5 (by omega)
  rw [em, e6]
  show zsum (zm_bendHere_W61 U a b 5 ((2 : Nat) : Int)) _ _ = _
  rw [l2]
  unfold zbend
  rw [if_pos hl1]
  show _ = zbendF c p (-zat c 0 1 % p) (zat c 1 0) 3 2
  show zsum (if zbendF c p (-zat c 0 1 % p) (zat c 1 0) 3 2 = -2 then Sum.inr 5 else Sum.inl (zbendF c p (-zat c 0 1 % p) (zat c 1 0) 3 2)) _ _ = _
  by_cases z : zbendF c p (-zat c 0 1 % p) (zat c 1 0) 3 2 = -2
  · rw [if_pos z, z]; rfl
  · rw [if_neg z]; rfl
theorem zLk_can {M : zCt} (hp : 0 < M.1 0 3) {cv pt : Int} : zcan (M.1 0 3) (zLk M cv pt) := zlook_can hp
theorem zB_bend {M : zCt} {S : zS2} (hB : zBs M S) (hX : zBx M) (hC : zCI M) {cv pt : Int} (hc : 0 ≤ cv ∧ cv < M.1 0 4) (hpt : zpt pt (M.1 0 3)) (h1 : zleast (zLk M cv pt) = 1) : zm_bendHere (zm_orderAt S cv pt).2 = zbend (zLk M cv pt) (M.1 0 3) := by
  obtain ⟨o1, o2, o3, o4⟩ := zB_order hB hX hC hc hpt
  obtain ⟨K, iK, φ, h⟩ := zKp_ex hX.1
  have hp := hC.p
  rw [h1] at o4
  exact zm_bendE h hX.1 (by rw [o1.p]; exact hB.1) o3 (zLk_can (by omega)) o4 h1
theorem zfact_14 (L : Nat) : zlK_14 zBm L := by
  intro i M S a1 a2 _ _ hR hC hI _ _
  have hB := hR.1.2.2.1
  obtain ⟨e1, e2⟩ := zm_asked hB (cv := a1) (pt := a2)
  by_cases h : (0 ≤ a1 ∧ a1 < M.1 0 4) ∧ zpt a2 (M.1 0 3)
  · obtain ⟨N, c1, c2, c3, c4, c5, _⟩ := zc_look hC h.1 h.2
    obtain ⟨o1, o2, o3, o4⟩ := zB_order hB hR.2 hC h.1 h.2
    have ec : zc_bend M a1 a2 = (zbend (zLk M a1 a2) (M.1 0 3), N) := by
      unfold zc_bend
      rw [c1]
      show (zbend (N.1 20) (N.1 0 13), N) = _
      rw [c4, c5]
    have em : zm_bend S a1 a2 = (if zleast (zLk M a1 a2) = 1 then (zbend (zLk M a1 a2) (M.1 0 3), (zm_orderAt S a1 a2).2) else (-1, (zm_orderAt S a1 a2).2)) := by
      unfold zm_bend
      rw [e1, bI_t h.1]
      rw [zlet_v, if_neg (by decide), e2, bI_t h.2]
      show (if (zm_orderAt S a1 a2).1 = 1 then (zm_bendHere (zm_orderAt S a1 a2).2, (zm_orderAt S a1 a2).2) else (-1, (zm_orderAt S a1 a2).2)) = _
      rw [o2]
      by_cases z : zleast (zLk M a1 a2) = 1
      · rw [if_pos z, if_pos z, zB_bend hB hR.2 hC h.1 h.2 z]
      · rw [if_neg z, if_neg z]
    rw [ec, em]
    by_cases z : zleast (zLk M a1 a2) = 1
    · rw [if_pos z]
      exact ⟨rfl, zBm_q hR hC c2 o1⟩
    · rw [if_neg z]
      refine ⟨?_, zBm_q hR hC c2 o1⟩
      show zbend (zLk M a1 a2) (M.1 0 3) = -1
      unfold zbend
      rw [if_neg z]
  · obtain ⟨N, c1, c2, c3⟩ := zc_look0 hC h
    have ec : zc_bend M a1 a2 = (-1, N) := by
      unfold zc_bend
      rw [c1]
      rfl
    have em : zm_bend S a1 a2 = (-1, S) := by
      unfold zm_bend
      rw [e1]
      by_cases h1 : 0 ≤ a1 ∧ a1 < M.1 0 4
      · rw [bI_t h1]
        rw [zlet_v, if_neg (by decide), e2, bI_f (fun q => h ⟨h1, q⟩)]
        rfl
      · rw [bI_f h1]; rfl
    rw [ec, em]
    exact ⟨rfl, zBm_q hR hC c2 zFm.rf⟩
theorem zfact_15 (L : Nat) : zlK_15 zBm L := by
  intro i M S a1 a2 _ _ hR hC hI _ _
  have hB := hR.1.2.2.1
  show (zc_choose M a1 a2 2).1 = (zm_flex S a1 a2).1 ∧ zBm (i + 8) (zc_choose M a1 a2 2).2 (zm_flex S a1 a2).2
  by_cases h : 0 ≤ a1 ∧ a1 < M.1 0 4
  · refine zc_pick hR hC (T := fun q => zbend (zLk M a1 q) (M.1 0 3) = -2 ∨ 3 ≤ zbend (zLk M a1 q) (M.1 0 3)) (fun q => instDecidableOr) h (fun N q hN hq => ?_) (W := zm_flex_W20 a1 a2) (fun n q U => rfl) (fun fu n q U hU hq => ?_) ?_
    · obtain ⟨N', n1, _, n2⟩ := zc_trait hB hR.2 hC hN h hq 2 (by decide)
      exact ⟨N', n1, by rw [n2, if_neg (by decide)]⟩
    · have hBU := zBs_q hB hC.cn.2 zVE.rf hU
      by_cases h1 : zmany (M.1 0 3) ≤ q
      · refine ⟨U, hU, ?_⟩
        rw [if_pos h1]
        simp only [zm_flex_W20]
        show (if zm_points U ≤ q then _ else _) = _
        rw [zB_points hBU.1, if_pos h1]
      · have hq2 := zpt_many hq h1
        obtain ⟨o1, o2, _, _⟩ := zB_order hBU hR.2 hC h hq2
        refine ⟨(zm_orderAt U a1 q).2, hU.tr o1, ?_⟩
        rw [if_neg h1]
        simp only [zm_flex_W20]
        show (if zm_points U ≤ q then _ else (if (zm_orderAt U a1 q).1 = 1 then (if zm_bendHere (zm_orderAt U a1 q).2 = -2 then (if n = a2 then _ else zm_flex_W20 a1 a2 fu (n + 1) (q + 1) (zm_orderAt U a1 q).2) else (if 3 ≤ zm_bendHere (zm_orderAt U a1 q).2 then (if n = a2 then _ else zm_flex_W20 a1 a2 fu (n + 1) (q + 1) (zm_orderAt U a1 q).2) else zm_flex_W20 a1 a2 fu n (q + 1) (zm_orderAt U a1 q).2)) else zm_flex_W20 a1 a2 fu n (q + 1) (zm_orderAt U a1 q).2)) = _
        rw [zB_points hBU.1, if_neg h1, o2]
        by_cases z : zleast (zLk M a1 q) = 1
        · rw [if_pos z, zB_bend hBU hR.2 hC h hq2 z]
          by_cases y : zbend (zLk M a1 q) (M.1 0 3) = -2
          · rw [if_pos y, if_pos (Or.inl y)]
          · rw [if_neg y]
            by_cases y2 : 3 ≤ zbend (zLk M a1 q) (M.1 0 3)
            · rw [if_pos y2, if_pos (Or.inr y2)]
            · rw [if_neg y2, if_neg (by omega)]
        · have zb : zbend (zLk M a1 q) (M.1 0 3) = -1 := by
            unfold zbend
            rw [if_neg z]
          rw [if_neg z, if_neg (by rw [zb]; omega)]
    · unfold zm_flex
      rw [zB_isCurve, hB.2.1, if_pos h]
      rfl
  · unfold zm_flex
    rw [zc_choose_f hC (fun q => h q.1), zB_isCurve, hB.2.1, if_neg h]
    exact ⟨rfl, zBm_q hR hC zVE.rf zFm.rf⟩
theorem zgen_W {M : zCt} {S : zS2} (hB : zBs M S) (hX : zBx M) (hC : zCI M) {cv : Int} (hc : 0 ≤ cv ∧ cv < M.1 0 4) : ∀ (fu : Nat) (v q : Int) (N : zCt) (U : zS2), zVE N M → zFm S U → 0 ≤ q → (zc_genus_W47 cv (zmany (M.1 0 3)) fu v q N).1 = (zm_genus_W30 cv fu v q U).1 ∧ zVE (zc_genus_W47 cv (zmany (M.1 0 3)) fu v q N).2.2 M ∧ zFm S (zm_genus_W30 cv fu v q U).2.2
  | 0, v, q, N, U, hN, hU, _ => ⟨rfl, hN, hU⟩
  | fu + 1, v, q, N, U, hN, hU, hq => by
    have hBU := zBs_q hB hC.cn.2 zVE.rf hU
    by_cases h1 : zmany (M.1 0 3) ≤ q
    · have ec : zc_genus_W47 cv (zmany (M.1 0 3)) (fu + 1) v q N = (v, q, N) := by
        simp only [zc_genus_W47]; rw [if_pos h1]
      have em : zm_genus_W30 cv (fu + 1) v q U = (v, q, U) := by
        simp only [zm_genus_W30]
        show (if zm_points U ≤ q then _ else _) = _
        rw [zB_points hBU.1, if_pos h1]
      rw [ec, em]
      exact ⟨rfl, hN, hU⟩
    · have hq2 := zpt_many hq h1
      obtain ⟨N', n1, n20, n2⟩ := zc_trait hB hX hC hN hc hq2 1 (by decide)
      obtain ⟨o1, o2, _, o4⟩ := zB_order hBU hX hC hc hq2
      have em : zm_genus_W30 cv (fu + 1) v q U = zm_genus_W30 cv fu (v - (Int.tdiv (zleast (zLk M cv q) * (zleast (zLk M cv q) - 1)) 2)) (q + 1) (zm_orderAt U cv q).2 := by
        simp only [zm_genus_W30]
        show (if zm_points U ≤ q then _ else zm_genus_W30 cv fu (v - (Int.tdiv ((zm_orderAt U cv q).1 * ((zm_orderAt U cv q).1 - 1)) 2)) (q + 1) (zm_orderAt U cv q).2) = _
        rw [zB_points hBU.1, if_neg h1, o2]
      have ec : zc_genus_W47 cv (zmany (M.1 0 3)) (fu + 1) v q N = (if (zc_hasTrait N cv q 1).1 = 0 then zc_genus_W47 cv (zmany (M.1 0 3)) fu v (q + 1) (zc_hasTrait N cv q 1).2 else zc_genus_W47 cv (zmany (M.1 0 3)) fu (v - (Int.tdiv (zleast ((zc_hasTrait N cv q 1).2.1 20) * (zleast ((zc_hasTrait N cv q 1).2.1 20) - 1)) 2)) (q + 1) (zc_hasTrait N cv q 1).2) := by
        simp only [zc_genus_W47]
        rw [if_neg h1]
        rfl
      rw [ec, em, n2, if_pos rfl]
      by_cases t : 2 ≤ zleast (zLk M cv q)
      · rw [if_pos t, if_neg (show ¬ ((1 : Int), N').1 = 0 from by show ¬ (1 : Int) = 0; decide)]
        show (zc_genus_W47 cv (zmany (M.1 0 3)) fu (v - (Int.tdiv (zleast (N'.1 20) * (zleast (N'.1 20) - 1)) 2)) (q + 1) N').1 = _ ∧ _
        rw [n20 (by omega)]
        exact zgen_W hB hX hC hc fu _ (q + 1) N' _ n1 (hU.tr o1) (by omega)
      · rw [if_neg t, if_pos (show ((0 : Int), N').1 = 0 from rfl)]
        have e0 : Int.tdiv (zleast (zLk M cv q) * (zleast (zLk M cv q) - 1)) 2 = 0 := by
          have := zleast_rng (zLk M cv q)
          rcases (show zleast (zLk M cv q) = 0 ∨ zleast (zLk M cv q) = 1 by omega) with z | z
          · rw [z]; rfl
          · rw [z]; rfl
        rw [e0, Int.sub_zero]
        exact zgen_W hB hX hC hc fu v (q + 1) N' _ n1 (hU.tr o1) (by omega)
theorem zfact_16 (L : Nat) : zlK_16 zBm L := by
  intro i M S a1 _ _ hR hC hI _
  have hB := hR.1.2.2.1
  unfold zc_genus zm_genus
  rw [zB_isCurve, hB.2.1]
  by_cases h : 0 ≤ a1 ∧ a1 < M.1 0 4
  · rw [if_pos ((zc_find hC).2 h), if_pos h]
    obtain ⟨w1, w2, w3⟩ := zgen_W hB hR.2 hC h 995 (Int.tdiv ((ztop (M.2.1 a1.toNat) - 1) * (ztop (M.2.1 a1.toNat) - 2)) 2) 0 M S zVE.rf zFm.rf (by decide)
    have e : zm_degreeOf S a1 = ztop (M.2.1 a1.toNat) := zB_top hB h
    show (zc_genus_W47 a1 (zmany (M.1 0 3)) 995 (Int.tdiv ((ztop (M.2.1 a1.toNat) - 1) * (ztop (M.2.1 a1.toNat) - 2)) 2) 0 M).1 = (zm_genus_W30 a1 995 (Int.tdiv ((zm_degreeOf S a1 - 1) * (zm_degreeOf S a1 - 2)) 2) 0 S).1 ∧ zBm (i + 8) (zc_genus_W47 a1 (zmany (M.1 0 3)) 995 (Int.tdiv ((ztop (M.2.1 a1.toNat) - 1) * (ztop (M.2.1 a1.toNat) - 2)) 2) 0 M).2.2 (zm_genus_W30 a1 995 (Int.tdiv ((zm_degreeOf S a1 - 1) * (zm_degreeOf S a1 - 2)) 2) 0 S).2.2
    rw [e]
    exact ⟨w1, zBm_q hR hC w2 w3⟩
  · rw [if_neg (fun q => h ((zc_find hC).1 q)), if_neg h]
    exact ⟨rfl, zBm_q hR hC zVE.rf zFm.rf⟩
end ZMk
