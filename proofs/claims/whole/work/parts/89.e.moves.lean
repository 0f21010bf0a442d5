section ZQe
theorem zq_congr {K : Type} [Lean.Grind.CommRing K] {φ : Int → K} {c d : Nat → Int} (h : ∀ q, q < 25 → c q = d q) : zq φ c = zq φ d := funext fun i => funext fun j => by
  by_cases q : i + j ≤ 4
  · rw [zq_t q, zq_t q, h _ (by omega)]
  · rw [zq_f q, zq_f q]
def kc_l {K : Type} [Lean.Grind.CommRing K] (A B E : K) : Nat → Nat → K := fun i j => if i = 1 ∧ j = 0 then A else (if i = 0 ∧ j = 1 then B else (if i = 0 ∧ j = 0 then E else 0))
theorem zq_lin {K : Type} [Lean.Grind.CommRing K] {p : Int} {φ : Int → K} (h : zKp K p φ) (a b e : Int) : zq φ (zlin3 (a % p) (b % p) (e % p)) = kc_l (φ a) (φ b) (φ e) := funext fun i => funext fun j => by
  unfold kc_l
  by_cases q : i + j ≤ 4
  · rw [zq_t q, zlin3_sp]
    by_cases h1 : i = 1 ∧ j = 0
    · rw [if_pos h1, if_neg (by omega), if_pos (by omega), h.em]
    · rw [if_neg h1]
      by_cases h2 : i = 0 ∧ j = 1
      · rw [if_pos h2, if_pos (by omega), h.em]
      · rw [if_neg h2, if_neg (by omega), if_neg (by omega)]
        by_cases h3 : i = 0 ∧ j = 0
        · rw [if_pos h3, if_pos (by omega), h.em]
        · rw [if_neg h3, if_neg (by omega), h.z]
  · rw [zq_f q, if_neg (by omega), if_neg (by omega), if_neg (by omega)]
theorem kc_l_dg {K : Type} [Lean.Grind.CommRing K] {A B E : K} : ∀ i j, 1 < i + j → kc_l A B E i j = 0 := fun i j h => by
  unfold kc_l
  rw [if_neg (by omega), if_neg (by omega), if_neg (by omega)]
theorem kc_sb_l {K : Type} [Lean.Grind.CommRing K] (P Q : Nat → Nat → K) (A B E : K) {n : Nat} (hn : 2 ≤ n) : kc_sb P Q (kc_l A B E) n = fun i j => A * P i j + B * Q i j + E * kc_t 1 0 0 i j := by
  have e : kc_l A B E = fun i j => ka_s (fun t => (if t = 0 then A else if t = 1 then B else E) * (if t = 0 then kc_t 1 1 0 else if t = 1 then kc_t 1 0 1 else kc_t 1 0 0) i j) 3 := funext fun i => funext fun j => by
    show kc_l A B E i j = ((0 + A * kc_t 1 1 0 i j) + B * kc_t 1 0 1 i j) + E * kc_t 1 0 0 i j
    unfold kc_l kc_t
    by_cases h1 : i = 1 ∧ j = 0
    · rw [if_pos h1, if_pos h1, if_neg (by omega), if_neg (by omega)]; grind
    · rw [if_neg h1, if_neg h1]
      by_cases h2 : i = 0 ∧ j = 1
      · rw [if_pos h2, if_pos h2, if_neg (by omega)]; grind
      · rw [if_neg h2, if_neg h2]
        by_cases h3 : i = 0 ∧ j = 0
        · rw [if_pos h3, if_pos h3]; grind
        · rw [if_neg h3, if_neg h3]; grind
  rw [e, kc_sb_lin (fun t => if t = 0 then A else if t = 1 then B else E) (fun t => if t = 0 then kc_t 1 1 0 else if t = 1 then kc_t 1 0 1 else kc_t 1 0 0) 3 n]
  funext i j
  show ((0 + A * kc_sb P Q (kc_t 1 1 0) n i j) + B * kc_sb P Q (kc_t 1 0 1) n i j) + E * kc_sb P Q (kc_t 1 0 0) n i j = _
  rw [kc_sb_t _ (by omega) (by omega), kc_sb_t _ (by omega) (by omega), kc_sb_t _ (by omega) (by omega)]
  show ((0 + A * (1 * kc_mul (kc_mul (kc_t 1 0 0) P) (kc_t 1 0 0) i j)) + B * (1 * kc_mul (kc_t 1 0 0) (kc_mul (kc_t 1 0 0) Q) i j)) + E * (1 * kc_mul (kc_t 1 0 0) (kc_t 1 0 0) i j) = _
  rw [kc_1_mul, kc_1_mul, kc_1_mul, kc_1_mul, kc_mul_comm P, kc_1_mul]; grind
/-- a MOVE leaves no CURVE without DEGREE -/
theorem zmv_top {K : Type} [Lean.Grind.CommRing K] {p : Int} {φ : Int → K} (h : zKp K p φ) {d : Nat → Int} {a b e c k f : Int} (hd : zcan p d) (ht : 0 < ztop d) (hdet : φ a * φ k - φ b * φ c ≠ 0) : 0 < ztop (zmv d (zpws (zlin3 (a % p) (b % p) (e % p)) p) (zpws (zlin3 (c % p) (k % p) (f % p)) p) p) := by
  refine Classical.byContradiction fun q => ?_
  obtain ⟨g, hg⟩ : ∃ g, g = zmv d (zpws (zlin3 (a % p) (b % p) (e % p)) p) (zpws (zlin3 (c % p) (k % p) (f % p)) p) p := ⟨_, rfl⟩
  rw [← hg] at q
  have e1 : zq φ g = kc_sb (kc_l (φ a) (φ b) (φ e)) (kc_l (φ c) (φ k) (φ f)) (zq φ d) 5 := by
    rw [hg, zq_mv h (by rw [zq_lin h]; exact kc_l_dg) (by rw [zq_lin h]; exact kc_l_dg), zq_lin h, zq_lin h]
  have e2 : zq φ g = kc_t (φ (g 0)) 0 0 := funext fun i => funext fun j => by
    unfold kc_t
    by_cases q2 : i + j ≤ 4
    · rw [zq_t q2]
      by_cases q3 : i = 0 ∧ j = 0
      · rw [if_pos q3, q3.1, q3.2]
      · rw [if_neg q3, zT_z (c := g) q2 (by omega), h.z]
    · rw [zq_f q2, if_neg (by omega)]
  obtain ⟨D, hD⟩ := h.F.2 _ hdet
  obtain ⟨P, hP⟩ : ∃ P, P = kc_l (D * φ k) (-(D * φ b)) (D * (φ b * φ f - φ k * φ e)) := ⟨_, rfl⟩
  obtain ⟨Q, hQ⟩ : ∃ Q, Q = kc_l (-(D * φ c)) (D * φ a) (D * (φ c * φ e - φ a * φ f)) := ⟨_, rfl⟩
  have s1 : kc_sb P Q (kc_l (φ a) (φ b) (φ e)) 40 = kc_t 1 1 0 := by
    rw [kc_sb_l _ _ _ _ _ (by omega), hP, hQ]
    funext i j
    unfold kc_l kc_t
    by_cases h1 : i = 1 ∧ j = 0
    · rw [if_pos h1, if_pos h1, if_pos h1, if_neg (by omega)]; grind
    · rw [if_neg h1, if_neg h1, if_neg h1]
      by_cases h2 : i = 0 ∧ j = 1
      · rw [if_pos h2, if_pos h2, if_neg (by omega)]; grind
      · rw [if_neg h2, if_neg h2]
        by_cases h3 : i = 0 ∧ j = 0
        · rw [if_pos h3, if_pos h3, if_pos h3]; grind
        · rw [if_neg h3, if_neg h3, if_neg h3]; grind
  have s2 : kc_sb P Q (kc_l (φ c) (φ k) (φ f)) 40 = kc_t 1 0 1 := by
    rw [kc_sb_l _ _ _ _ _ (by omega), hP, hQ]
    funext i j
    unfold kc_l kc_t
    by_cases h1 : i = 1 ∧ j = 0
    · rw [if_pos h1, if_pos h1, if_neg (by omega), if_neg (by omega)]; grind
    · rw [if_neg h1, if_neg h1]
      by_cases h2 : i = 0 ∧ j = 1
      · rw [if_pos h2, if_pos h2, if_neg (by omega), if_pos h2]; grind
      · rw [if_neg h2, if_neg h2, if_neg h2]
        by_cases h3 : i = 0 ∧ j = 0
        · rw [if_pos h3, if_pos h3, if_pos h3]; grind
        · rw [if_neg h3, if_neg h3, if_neg h3]; grind
  have l2 : ∀ A B E : K, kc_lt 2 (kc_l A B E) := fun A B E i j hij => kc_l_dg i j (by omega)
  have e3 := kc_sb_comp (P := P) (Q := Q) (f := zq φ d) (m := 5) (N := 40) (l2 (φ a) (φ b) (φ e)) (l2 (φ c) (φ k) (φ f)) (by omega) (by omega)
  rw [s1, s2, kc_sb_id (zq_lt5 d), ← e1, e2, kc_sb_t _ (by omega) (by omega)] at e3
  obtain ⟨i, j, h1, h2, h3⟩ := zT_ex (c := d) (by omega)
  have e4 := congrFun (congrFun e3 i) j
  have e5 : kc_mul (kc_pw P 0) (kc_pw Q 0) i j = 0 := by
    show kc_mul (kc_t 1 0 0) (kc_t 1 0 0) i j = 0
    rw [kc_1_mul]
    unfold kc_t
    rw [if_neg (by omega)]
  rw [zq_t h1] at e4
  have e6 : φ (g 0) * kc_mul (kc_pw P 0) (kc_pw Q 0) i j = φ (d (5 * i + j)) := e4
  rw [e5] at e6
  exact h3 ((h.z0 (hd _)).1 (by rw [← e6]; grind))
end ZQe
section ZQf
/-- while a CURVE is moved -/
def zMJ (S : zS2) (p : Int) (nx ny : Nat → Int) (X : zS2) : Prop := (∀ r q : Nat, r ≠ 3 → r ≠ 4 → X r q = S r q) ∧ (∀ q : Nat, q < 3500 → X 3 q = S 3 q) ∧ (∀ q : Nat, q < 25 → X 3 (25 * 140 + q) = nx q) ∧ (∀ q : Nat, q < 25 → X 3 (25 * 142 + q) = ny q) ∧ (∀ i j : Nat, i + j ≤ 4 → 0 ≤ zG X 144 (5 * i + j) ∧ zG X 144 (5 * i + j) < p) ∧ zflt (zG X 144)
theorem zMJ.o {S X Y : zS2} {p : Int} {nx ny : Nat → Int} (h : zMJ S p nx ny X) (hY : ∀ r q : Nat, r ≠ 4 → ¬ (r = 3 ∧ 25 * 141 ≤ q ∧ q < 25 * 141 + 25) → Y r q = X r q) : zMJ S p nx ny Y := by
  have e : ∀ k, k < 25 → zG Y 144 k = zG X 144 k := fun k hk => hY 3 _ (by omega) (by omega)
  refine ⟨fun r q a b => by rw [hY r q b (by omega)]; exact h.1 r q a b, fun q hq => by rw [hY 3 q (by omega) (by omega)]; exact h.2.1 q hq, fun q hq => by rw [hY 3 _ (by omega) (by omega)]; exact h.2.2.1 q hq, fun q hq => by rw [hY 3 _ (by omega) (by omega)]; exact h.2.2.2.1 q hq, fun i j hij => by rw [e _ (by omega)]; exact h.2.2.2.2.1 i j hij, fun i j hi hj hij => by rw [e _ (by omega)]; exact h.2.2.2.2.2 i j hi hj hij⟩
theorem zm_mvloop {K : Type} [Lean.Grind.CommRing K] {p : Int} {φ : Int → K} (h : zKp K p φ) (hp : 0 < p) {S : zS2} (hS : S 0 10 = p) {nx ny : Nat → Int} {gi : Int} {gm : Nat} (hgi : gi = (gm : Int)) {F PM : Nat → Nat → K} {m : Nat} {st : Int → Int × zS2 → Int × zS2} (hst : ∀ i s, st i s = (if (zm_multiplies s.2 141 141 gi).1 = 0 then (0, (zm_multiplies s.2 141 141 gi).2) else (if s.1 = 0 then (0, (zm_multiplies s.2 141 141 gi).2) else (1, (zm_multiplies s.2 141 141 gi).2)))) (hgm : ∀ X, zMJ S p nx ny X → zq φ (zG X gm) = PM) (hF : ∀ i j, m < i + j → F i j = 0) (hPM : ∀ i j, 1 < i + j → PM i j = 0) {Y : zS2} (hY : zMJ S p nx ny Y) (hYq : zq φ (zG Y 141) = F) (hYf : zflt (zG Y 141)) (n : Nat) (hn : m + n ≤ 4) : (zfor st 0 (1, Y) n).1 = 1 ∧ zMJ S p nx ny (zfor st 0 (1, Y) n).2 ∧ zq φ (zG (zfor st 0 (1, Y) n).2 141) = kc_mul F (kc_pw PM n) ∧ zflt (zG (zfor st 0 (1, Y) n).2 141) ∧ ∀ q : Nat, q < 25 → zG (zfor st 0 (1, Y) n).2 144 q = zG Y 144 q := by
  refine zfor_ix (I := fun t (s : Int × zS2) => s.1 = 1 ∧ zMJ S p nx ny s.2 ∧ zq φ (zG s.2 141) = kc_mul F (kc_pw PM t) ∧ zflt (zG s.2 141) ∧ ∀ q : Nat, q < 25 → zG s.2 144 q = zG Y 144 q) ⟨rfl, hY, ?_, hYf, fun _ _ => rfl⟩ n (fun t s ht hs => ?_)
  · show zq φ (zG Y 141) = kc_mul F (kc_t 1 0 0)
    rw [kc_mul_comm, kc_1_mul]; exact hYq
  · obtain ⟨s1, s2, s3, s4, s5⟩ := hs
    rw [hst, s1]
    have dg : ∀ A B, 4 < A + B → kc_mul (zq φ (zG s.2 141)) (zq φ (zG s.2 gm)) A B = 0 := fun A B hAB => by
      rw [s3, hgm _ s2]
      exact kc_zero (n := m + t) (m := 1) (fun i j q => kc_zero hF (fun i j q => kc_pw_dg hPM t i j (by omega)) i j q) hPM A B (by omega)
    rcases zm_mulG h (S := s.2) 141 141 gm (by rw [s2.1 0 10 (by decide) (by decide), hS]) hp with ⟨T, _, _, A, B, hAB, hne⟩ | ⟨U, u1, u2, u3, u4, u5, u6⟩
    · exact absurd (dg A B hAB) hne
    · have u1' : zm_multiplies s.2 141 141 gi = (1, U) := by rw [hgi]; exact u1
      rw [u1']
      show (if (1 : Int) = 0 then ((0 : Int), U) else (if (1 : Int) = 0 then (0, U) else (1, U))).1 = 1 ∧ zMJ S p nx ny U ∧ zq φ (zG U 141) = _ ∧ zflt (zG U 141) ∧ ∀ q : Nat, q < 25 → zG U 144 q = zG Y 144 q
      refine ⟨rfl, s2.o u2, ?_, u6, fun q hq => (u2 3 _ (by decide) (by omega)).trans (s5 q hq)⟩
      rw [u5, s3, hgm _ s2, kc_mul_assoc]
      rfl
theorem zm_L160 (i : Int) (s : Int × zS2) : zm_moves_L160 i s = (if (zm_multiplies s.2 141 141 140).1 = 0 then (0, (zm_multiplies s.2 141 141 140).2) else (if s.1 = 0 then (0, (zm_multiplies s.2 141 141 140).2) else (1, (zm_multiplies s.2 141 141 140).2))) := by
  unfold zm_moves_L160
  dsimp only
  rw [zlet_v]
theorem zm_L203 (i : Int) (s : Int × zS2) : zm_moves_L203 i s = (if (zm_multiplies s.2 141 141 142).1 = 0 then (0, (zm_multiplies s.2 141 141 142).2) else (if s.1 = 0 then (0, (zm_multiplies s.2 141 141 142).2) else (1, (zm_multiplies s.2 141 141 142).2))) := by
  unfold zm_moves_L203
  dsimp only
  rw [zlet_v]
theorem zm_moves_sp {K : Type} [Lean.Grind.CommRing K] {p : Int} {φ : Int → K} (h : zKp K p φ) {S : zS2} {cv : Nat} {d : Nat → Int} (a b e c k f : Int) (hS : S 0 10 = p) (hp : 2 ≤ p) (hcv : cv < 6) (hd : ∀ q, q < 25 → S 3 (25 * cv + q) = d q) :
    (∀ r q : Nat, r ≠ 4 → ¬ (r = 3 ∧ (3500 ≤ q ∨ (25 * cv ≤ q ∧ q < 25 * cv + 25))) → (zm_moves S cv a b e c k f) r q = S r q) ∧ ∀ q, q < 25 → (zm_moves S cv a b e c k f) 3 (25 * cv + q) = zmv d (zpws (zlin3 (a % p) (b % p) (e % p)) p) (zpws (zlin3 (c % p) (k % p) (f % p)) p) p q := by
  obtain ⟨nx, hnx⟩ : ∃ nx, nx = zlin3 (a % p) (b % p) (e % p) := ⟨_, rfl⟩
  obtain ⟨ny, hny⟩ : ∃ ny, ny = zlin3 (c % p) (k % p) (f % p) := ⟨_, rfl⟩
  obtain ⟨S1, hS1⟩ : ∃ S1, S1 = zm_sets (zm_sets (zm_sets (zm_empties S 140) 140 1 0 a) 140 0 1 b) 140 0 0 e := ⟨_, rfl⟩
  obtain ⟨S2, hS2⟩ : ∃ S2, S2 = zm_sets (zm_sets (zm_sets (zm_empties S1 142) 142 1 0 c) 142 0 1 k) 142 0 0 f := ⟨_, rfl⟩
  have em : zm_moves S cv a b e c k f = zm_copies (zfor (zm_moves_L95 cv) 0 (zm_empties S2 144) 5) cv 144 := by
    rw [hS2, hS1]
    unfold zm_moves
    rw [zlet_v, zlet_v, zlet_v, zlet_v, zlet_v, zlet_v, zlet_v, zlet_v, zlet_v, show (4 + 1 - 0 : Int).toNat = 5 from rfl]
    rfl
  have a1 := zm_lin (X := S) (g := 140) hS (by omega) a b e
  have a1a : ∀ k q : Nat, ¬ (k = 3 ∧ 25 * 140 ≤ q ∧ q < 25 * 140 + 25) → S1 k q = S k q := by rw [hS1]; exact a1.1
  have a1b : ∀ q : Nat, q < 25 → zG S1 140 q = nx q := by rw [hS1, hnx]; exact a1.2
  have h1 : S1 0 10 = p := by rw [a1a 0 10 (by omega), hS]
  have a2 := zm_lin (X := S1) (g := 142) h1 (by omega) c k f
  have a2a : ∀ k q : Nat, ¬ (k = 3 ∧ 25 * 142 ≤ q ∧ q < 25 * 142 + 25) → S2 k q = S1 k q := by rw [hS2]; exact a2.1
  have a2b : ∀ q : Nat, q < 25 → zG S2 142 q = ny q := by rw [hS2, hny]; exact a2.2
  have a3 : ∀ k q : Nat, (zm_empties S2 144) k q = if k = 3 ∧ 25 * 144 ≤ q ∧ q < 25 * 144 + 25 then 0 else S2 k q := zm_empties_sp S2 144
  obtain ⟨S3, hS3⟩ : ∃ S3, S3 = zm_empties S2 144 := ⟨_, rfl⟩
  rw [← hS3] at a3 em
  have J3 : zMJ S p nx ny S3 := by
    refine ⟨fun r q h1 h2 => ?_, fun q hq => ?_, fun q hq => ?_, fun q hq => ?_, fun i j hij => ?_, fun i j hi hj hij => ?_⟩
    · rw [a3, if_neg (by omega), a2a r q (by omega), a1a r q (by omega)]
    · rw [a3, if_neg (by omega), a2a 3 q (by omega), a1a 3 q (by omega)]
    · rw [a3, if_neg (by omega), a2a 3 _ (by omega)]; exact a1b q hq
    · rw [a3, if_neg (by omega)]; exact a2b q hq
    · unfold zG; rw [a3, if_pos (by omega)]; omega
    · unfold zG; rw [a3, if_pos (by omega)]
  have z3 : ∀ A B : Nat, A + B ≤ 4 → φ (zG S3 144 (5 * A + B)) = 0 := fun A B hAB => by
    unfold zG; rw [a3, if_pos (by omega), h.z]
  have hx : ∀ X, zMJ S p nx ny X → zq φ (zG X 140) = zq φ nx := fun X hX => zq_congr (fun q hq => hX.2.2.1 q hq)
  have hy : ∀ X, zMJ S p nx ny X → zq φ (zG X 142) = zq φ ny := fun X hX => zq_congr (fun q hq => hX.2.2.2.1 q hq)
  have dx : ∀ i j, 1 < i + j → zq φ nx i j = 0 := by rw [hnx, zq_lin h]; exact kc_l_dg
  have dy : ∀ i j, 1 < i + j → zq φ ny i j = 0 := by rw [hny, zq_lin h]; exact kc_l_dg
  -- one TERM
  have step : ∀ (i j : Nat) (X : zS2), i + j ≤ 4 → zMJ S p nx ny X → zMJ S p nx ny (zm_moves_L104 cv i j X) ∧ ∀ A B : Nat, A + B ≤ 4 → φ (zG (zm_moves_L104 cv i j X) 144 (5 * A + B)) = φ (zG X 144 (5 * A + B)) + zq φ d i j * kc_mul (kc_pw (zq φ nx) i) (kc_pw (zq φ ny) j) A B := by
    intro i j X hij hX
    have hX0 : X 0 10 = p := by rw [hX.1 0 10 (by decide) (by decide), hS]
    have hcell : ∀ Y : zS2, (∀ q : Nat, q < 3500 → Y 3 q = S 3 q) → zm_cell Y cv i j = d (5 * i + j) := fun Y hY => by
      rw [zM_cell, hY _ (by omega), Nat.add_assoc]; exact hd _ (by omega)
    by_cases u0 : d (5 * i + j) = 0
    · have e1 : zm_moves_L104 cv i j X = X := by
        show (if zm_cell X cv i j = 0 then X else _) = X
        rw [hcell X hX.2.1, if_pos u0]
      rw [e1]
      refine ⟨hX, fun A B hAB => ?_⟩
      rw [zq_t hij, u0, h.z]; grind
    · obtain ⟨X1, hX1⟩ : ∃ X1, X1 = zm_empties X 141 := ⟨_, rfl⟩
      have b1 : ∀ k q : Nat, X1 k q = if k = 3 ∧ 25 * 141 ≤ q ∧ q < 25 * 141 + 25 then 0 else X k q := by rw [hX1]; exact zm_empties_sp X 141
      have hX10 : X1 0 10 = p := by rw [b1, if_neg (by omega), hX0]
      obtain ⟨X2, hX2⟩ : ∃ X2, X2 = zm_sets X1 141 0 0 (d (5 * i + j)) := ⟨_, rfl⟩
      have b2 : X2 = za X1 3 (25 * 141) (d (5 * i + j) % p) := by rw [hX2]; exact zm_setsE (i := 0) (j := 0) (g := 141) hX10 (by omega)
      have J2 : zMJ S p nx ny X2 := hX.o (fun r q h1 h2 => by rw [b2, za_ne (by omega), b1, if_neg h2])
      have q2 : ∀ q : Nat, q < 25 → zG X2 141 q = zone (d (5 * i + j) % p) q := fun q hq => by
        unfold zG zone
        rw [b2]
        by_cases e0 : q = 0
        · rw [e0, if_pos rfl]; exact za_same
        · rw [if_neg e0, za_ne (by omega), b1, if_pos (by omega)]
      have p2 : zq φ (zG X2 141) = kc_t (φ (d (5 * i + j))) 0 0 := by rw [zq_congr q2, zq_one h, h.em]
      have f2 : zflt (zG X2 141) := fun A B hA hB hAB => by
        rw [q2 _ (by omega)]
        unfold zone
        rw [if_neg (by omega)]
      obtain ⟨c1, c2, c3, c4, c5⟩ := zm_mvloop h (by omega) hS (gi := 140) (gm := 140) rfl (F := kc_t (φ (d (5 * i + j))) 0 0) (m := 0) (st := zm_moves_L160) zm_L160 hx (fun i j q => if_neg (by omega)) dx J2 p2 f2 i (by omega)
      obtain ⟨Y, hY⟩ : ∃ Y, Y = (zfor zm_moves_L160 0 (1, X2) i).2 := ⟨_, rfl⟩
      have eY : zfor zm_moves_L160 0 (1, X2) i = (1, Y) := Prod.ext c1 hY.symm
      rw [← hY] at c2 c3 c4 c5
      obtain ⟨d1, d2, d3, d4, d5⟩ := zm_mvloop h (by omega) hS (gi := 142) (gm := 142) rfl (F := kc_mul (kc_t (φ (d (5 * i + j))) 0 0) (kc_pw (zq φ nx) i)) (m := i) (st := zm_moves_L203) zm_L203 hy (fun A B q => kc_zero (n := 0) (m := i) (fun i j q => if_neg (by omega)) (fun A B q => kc_pw_dg dx i A B (by omega)) A B (by omega)) dy c2 c3 c4 j (by omega)
      obtain ⟨Z, hZ⟩ : ∃ Z, Z = (zfor zm_moves_L203 0 (1, Y) j).2 := ⟨_, rfl⟩
      have eZ : zfor zm_moves_L203 0 (1, Y) j = (1, Z) := Prod.ext d1 hZ.symm
      rw [← hZ] at d2 d3 d4 d5
      have e1 : zm_moves_L104 cv i j X = zm_adds Z 144 141 1 := by
        unfold zm_moves_L104
        dsimp only
        rw [zlet_v, hcell X hX.2.1, if_neg u0, zlet_v, ← hX1, zlet_v, hcell X1 (fun q hq => by rw [b1, if_neg (by omega)]; exact hX.2.1 q hq), zlet_v, ← hX2, zlet_v, show (((i : Int) - 1) + 1 - 0).toNat = i by omega, eY, zlet_v, show (((j : Int) - 1) + 1 - 0).toNat = j by omega]
        show (if (zfor zm_moves_L203 0 (1, Y) j).1 = 0 then (zfor zm_moves_L203 0 (1, Y) j).2 else zm_adds (zfor zm_moves_L203 0 (1, Y) j).2 144 141 1) = _
        rw [eZ]
        rfl
      obtain ⟨g1, g2, g3⟩ := zm_adds_sp (S := Z) (to := 144) (fr := 141) (p := p) (by rw [d2.1 0 10 (by decide) (by decide), hS]) (by omega) (by decide) 1
      obtain ⟨V, hV⟩ : ∃ V, V = zm_adds Z 144 141 1 := ⟨_, rfl⟩
      have g1' : ∀ k q : Nat, k ≠ 3 → V k q = Z k q := by rw [hV]; exact g1
      have g2' : ∀ q : Nat, ¬ (25 * 144 ≤ q ∧ q < 25 * 144 + 25) → V 3 q = Z 3 q := by rw [hV]; exact g2
      have g3' : ∀ A B : Nat, A < 5 → B < 5 → zG V 144 (5 * A + B) = (zG Z 144 (5 * A + B) + 1 * zG Z 141 (5 * A + B)) % p := fun A B hA hB => by
        have := g3 A B hA hB
        rw [← zG_at V, ← zG_at Z, ← zG_at Z, hV]; exact this
      rw [e1, ← hV]
      refine ⟨⟨fun r q h1 h2 => by rw [g1' r q h1]; exact d2.1 r q h1 h2, fun q hq => by rw [g2' q (by omega)]; exact d2.2.1 q hq, fun q hq => by rw [g2' _ (by omega)]; exact d2.2.2.1 q hq, fun q hq => by rw [g2' _ (by omega)]; exact d2.2.2.2.1 q hq, fun A B hAB => ?_, fun A B hA hB hAB => ?_⟩, fun A B hAB => ?_⟩
      · rw [g3' A B (by omega) (by omega)]; exact ⟨Int.emod_nonneg _ (by omega), Int.emod_lt_of_pos _ (by omega)⟩
      · rw [g3' A B hA hB, d2.2.2.2.2.2 A B hA hB hAB, d4 A B hA hB hAB]
        exact Int.zero_emod p
      · have o144 : zG Z 144 (5 * A + B) = zG X 144 (5 * A + B) := by
          rw [d5 _ (by omega), c5 _ (by omega)]
          unfold zG
          rw [b2, za_ne (by omega), b1, if_neg (by omega)]
        have e2 : φ (zG Z 141 (5 * A + B)) = zq φ d i j * kc_mul (kc_pw (zq φ nx) i) (kc_pw (zq φ ny) j) A B := by
          have := congrFun (congrFun d3 A) B
          rw [zq_t hAB] at this
          rw [this, kc_mul_assoc, kc_c_mul, zq_t hij]
        rw [g3' A B (by omega) (by omega), h.em, h.ad, h.ml, h.o, e2, o144]; grind
  obtain ⟨S4, hS4⟩ : ∃ S4, S4 = zfor (zm_moves_L95 cv) 0 S3 5 := ⟨_, rfl⟩
  have all : ∀ A B : Nat, A + B ≤ 4 → zMJ S p nx ny S4 ∧ φ (zG S4 144 (5 * A + B)) = φ (zG S3 144 (5 * A + B)) + ka_s (fun i => ka_s (fun j => zq φ d i j * kc_mul (kc_pw (zq φ nx) i) (kc_pw (zq φ ny) j) A B) (4 - i + 1)) 5 := fun A B hAB => by
    rw [hS4]
    refine zK_accI (fun X : zS2 => φ (zG X 144 (5 * A + B))) (zMJ S p nx ny) J3 5 (fun i X hi hX => ?_)
    rw [show 0 + (i : Int) = (i : Int) by omega]
    show zMJ S p nx ny (zfor (zm_moves_L104 cv i) 0 X ((4 - (i : Int)) + 1 - 0).toNat) ∧ φ (zG (zfor (zm_moves_L104 cv i) 0 X ((4 - (i : Int)) + 1 - 0).toNat) 144 (5 * A + B)) = _
    rw [show ((4 - (i : Int)) + 1 - 0).toNat = 4 - i + 1 by omega]
    refine zK_accI (fun X : zS2 => φ (zG X 144 (5 * A + B))) (zMJ S p nx ny) hX (4 - i + 1) (fun j Y hj hY => ?_)
    rw [show 0 + (j : Int) = (j : Int) by omega]
    exact ⟨(step i j Y (by omega) hY).1, (step i j Y (by omega) hY).2 A B hAB⟩
  have J4 := (all 0 0 (by omega)).1
  have v4 : ∀ A B : Nat, A + B ≤ 4 → φ (zG S4 144 (5 * A + B)) = zq φ (zmv d (zpws nx p) (zpws ny p) p) A B := fun A B hAB => by
    rw [(all A B hAB).2, z3 A B hAB, zq_mv h dx dy]
    unfold kc_sb
    have e : ka_s (fun i => ka_s (fun j => zq φ d i j * kc_mul (kc_pw (zq φ nx) i) (kc_pw (zq φ ny) j) A B) (4 - i + 1)) 5 = ka_s (fun i => ka_s (fun j => zq φ d i j * kc_mul (kc_pw (zq φ nx) i) (kc_pw (zq φ ny) j) A B) 5) 5 := ka_s_congr _ (fun i hi => by
      rw [ka_s_ext (m := 4 - i + 1) 5 (by omega) (fun j h1 h2 => by rw [zq_f (c := d) (by omega)]; grind)])
    rw [e]; grind
  rw [em, ← hS4, ← hnx, ← hny]
  have cp : ∀ r q : Nat, (zm_copies S4 cv 144) r q = if r = 3 ∧ 25 * cv ≤ q ∧ q < 25 * cv + 25 then S4 3 (25 * 144 + (q - 25 * cv)) else S4 r q := zm_copies_sp S4 cv 144
  refine ⟨fun r q h1 h2 => ?_, fun q hq => ?_⟩
  · rw [cp, if_neg (by omega)]
    by_cases r3 : r = 3
    · rw [r3]; exact J4.2.1 q (by omega)
    · exact J4.1 r q r3 h1
  · rw [cp, if_pos (by omega), show 25 * cv + q - 25 * cv = q by omega]
    show zG S4 144 q = _
    obtain ⟨A, B, hA, hB, rfl⟩ : ∃ A B : Nat, A < 5 ∧ B < 5 ∧ q = 5 * A + B := ⟨q / 5, q % 5, by omega, by omega, by omega⟩
    by_cases hAB : A + B ≤ 4
    · refine h.ij (J4.2.2.2.2.1 A B hAB) (zmv_can (by omega) _) ?_
      rw [v4 A B hAB, zq_t hAB]
    · rw [J4.2.2.2.2.2 A B hA hB (by omega), zmv_fl _ _ _ _ A B hA hB (by omega)]
end ZQf
