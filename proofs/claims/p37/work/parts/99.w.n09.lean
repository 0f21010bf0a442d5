section ZLx
theorem zT_mono {K : Type} [Lean.Grind.CommRing K] {p : Int} {φ : Int → K} (h : zKp K p φ) {t : Nat → Int} {u : K} {a b : Nat} (hc : zcan p t) (hq : zq φ t = kc_t u a b) : ztop t ≤ ((a + b : Nat) : Int) := by
  by_cases c : 0 ≤ ztop t
  · obtain ⟨i, j, hij, e, ne⟩ := zT_ex c
    have z : φ (t (5 * i + j)) = kc_t u a b i j := (zq_t (φ := φ) (c := t) hij).symm.trans (congrFun (congrFun hq i) j)
    by_cases e2 : i = a ∧ j = b
    · omega
    · rw [show kc_t u a b i j = 0 from if_neg e2] at z
      exact absurd ((h.z0 (hc _)).1 z) ne
  · omega
theorem kc_tt {K : Type} [Lean.Grind.CommRing K] (u v : K) (a b i j : Nat) : kc_mul (kc_t u a b) (kc_t v i j) = kc_t (u * v) (a + i) (b + j) := funext fun x => funext fun y => by
  rw [kc_t_mul]
  unfold kc_t
  by_cases c1 : a ≤ x ∧ b ≤ y
  · rw [if_pos c1]
    by_cases c2 : x - a = i ∧ y - b = j
    · rw [if_pos c2, if_pos (by omega)]
    · rw [if_neg c2, if_neg (by omega)]
      grind
  · rw [if_neg c1, if_neg (by omega)]
theorem zmS_q {K : Type} [Lean.Grind.CommRing K] {p : Int} {φ : Int → K} (h : zKp K p φ) (hp : 0 < p) {Q : Nat → Nat → Int} {c d : Nat} {u v : K} {a b i j : Nat} (hc6 : c ≠ 6) (h3 : Q 0 3 = p) (kc : zcan p (Q c)) (kd : zcan p (Q d)) (qc : zq φ (Q c) = kc_t u a b) (qd : zq φ (Q d) = kc_t v i j) (hd : a + b + i + j ≤ 4) : ¬ zmuc (Q c) (Q d) ∧ zq φ (zmS Q c d c) = kc_t (u * v) (a + i) (b + j) ∧ zcan p (zmS Q c d c) ∧ ∀ k, k ≠ c → k ≠ 6 → zmS Q c d k = Q k := by
  have nm : ¬ zmuc (Q c) (Q d) := fun z => by
    have t1 := zT_mono h kc qc
    have t2 := zT_mono h kd qd
    have := z.2.2
    omega
  obtain ⟨e1, e2⟩ := zmS_5 Q nm hc6
  refine ⟨nm, ?_, ?_, e2⟩
  · rw [e1, h3, zq_prod h (Q c) (Q d) (by rw [qc, qd, kc_tt]; exact kc_t_dg (by omega)), qc, qd, kc_tt]
  · rw [e1, h3]
    exact zprod_can hp
theorem zpw_q {K : Type} [Lean.Grind.CommRing K] {p : Int} {φ : Int → K} (h : zKp K p φ) (hp : 0 < p) {u : K} {i j : Nat} : ∀ (e a b : Nat) (S : Nat → Nat → Int), S 0 3 = p → zcan p (S 5) → zcan p (S 4) → zq φ (S 5) = kc_t u a b → zq φ (S 4) = kc_t 1 i j → a + b + e * (i + j) ≤ 4 → (zpwF e S).1 = 1 ∧ zq φ ((zpwF e S).2 5) = kc_t u (a + e * i) (b + e * j) ∧ zcan p ((zpwF e S).2 5) ∧ ∀ k, k ≠ 5 → k ≠ 6 → (zpwF e S).2 k = S k
  | 0, a, b, S, _, c5, _, q5, _, _ => ⟨rfl, by rw [Nat.zero_mul, Nat.zero_mul]; exact q5, c5, fun _ _ _ => rfl⟩
  | e + 1, a, b, S, h3, c5, c4, q5, q4, hd => by
    have hd2 : a + b + i + j + e * (i + j) ≤ 4 := by
      rw [Nat.add_mul] at hd
      omega
    obtain ⟨nm, x1, x2, x3⟩ := zmS_q h hp (c := 5) (d := 4) (by decide) h3 c5 c4 q5 q4 (by omega)
    rw [zpwF_f nm]
    have o1 : u * (1 : K) = u := by grind
    rw [o1] at x1
    obtain ⟨y1, y2, y3, y4⟩ := zpw_q h hp e (a + i) (b + j) (zmS S 5 4) (by rw [x3 0 (by decide) (by decide)]; exact h3) x2 (by rw [x3 4 (by decide) (by decide)]; exact c4) x1 (by rw [x3 4 (by decide) (by decide)]; exact q4) (by omega)
    refine ⟨y1, ?_, y3, fun k h5 h6 => (y4 k h5 h6).trans (x3 k h5 h6)⟩
    rw [y2, Nat.add_mul, Nat.add_mul, Nat.one_mul, Nat.one_mul]
    congr 1 <;> omega
theorem zrf4_q {K : Type} [Lean.Grind.CommRing K] {p : Int} {φ : Int → K} (h : zKp K p φ) (hp : 0 < p) {S : Nat → Nat → Int} {stt : Int} {u v : K} {a b i j : Nat} (h3 : S 0 3 = p) (c7 : zcan p (S 70)) (c5 : zcan p (S 5)) (q7 : zq φ (S 70) = kc_t u a b) (q5 : zq φ (S 5) = kc_t v i j) (hd : a + b + i + j ≤ 4) : ∃ B, zrf4 0 stt S = (1, B) ∧ zq φ (B 70) = kc_t (u * v) (a + i) (b + j) ∧ zcan p (B 70) ∧ ∀ k, k ≠ 70 → k ≠ 6 → B k = S k := by
  obtain ⟨nm, x1, x2, x3⟩ := zmS_q h hp (c := 70) (d := 5) (by decide) h3 c7 c5 q7 q5 hd
  exact ⟨_, if_neg nm, x1, x2, x3⟩
theorem zone_c1 {p : Int} (hp : 1 < p) : zcan p (zone 1) := fun k => by
  unfold zone
  split <;> omega
theorem zq_1 {K : Type} [Lean.Grind.CommRing K] {p : Int} {φ : Int → K} (h : zKp K p φ) : zq φ (zone 1) = kc_t 1 0 0 := by rw [zq_one h, h.o]
/-- a FACTOR with a power: a letter -/
theorem zrf3_e {K : Type} [Lean.Grind.CommRing K] {p : Int} {φ : Int → K} (h : zKp K p φ) (hp : 1 < p) {S : Nat → Nat → Int} {stt : Int} {u : K} {a b i j e : Nat} (h3 : S 0 3 = p) (c7 : zcan p (S 70)) (c4 : zcan p (S 4)) (q7 : zq φ (S 70) = kc_t u a b) (q4 : zq φ (S 4) = kc_t 1 i j) (hd : a + b + e * (i + j) ≤ 4) : ∃ B, zrf3 0 stt e S = (1, B) ∧ zq φ (B 70) = kc_t u (a + e * i) (b + e * j) ∧ zcan p (B 70) ∧ ∀ k, k ≠ 70 → k ≠ 6 → k ≠ 5 → B k = S k := by
  have s5 : zset S 5 (zone 1) 5 = zone 1 := zset_self _ _ _
  have sk : ∀ k, k ≠ 5 → zset S 5 (zone 1) k = S k := fun k hk => zset_ne _ _ hk
  obtain ⟨y1, y2, y3, y4⟩ := zpw_q h (by omega) (u := 1) (i := i) (j := j) e 0 0 (zset S 5 (zone 1)) (by rw [sk 0 (by decide)]; exact h3) (by rw [s5]; exact zone_c1 hp) (by rw [sk 4 (by decide)]; exact c4) (by rw [s5]; exact zq_1 h) (by rw [sk 4 (by decide)]; exact q4) (by omega)
  have hd2 : a + b + e * i + e * j ≤ 4 := by
    rw [Nat.mul_add] at hd
    omega
  have k7 : (zpwF e (zset S 5 (zone 1))).2 70 = S 70 := (y4 70 (by decide) (by decide)).trans (sk 70 (by decide))
  have k3 : (zpwF e (zset S 5 (zone 1))).2 0 = S 0 := (y4 0 (by decide) (by decide)).trans (sk 0 (by decide))
  obtain ⟨B, e1, e2, e3, e4⟩ := zrf4_q h (by omega) (S := (zpwF e (zset S 5 (zone 1))).2) (stt := stt) (a := a) (b := b) (i := 0 + e * i) (j := 0 + e * j) (u := u) (v := 1) (by rw [k3]; exact h3) (by rw [k7]; exact c7) y3 (by rw [k7]; exact q7) y2 (by omega)
  refine ⟨B, ?_, ?_, e3, fun k a7 a6 a5 => (e4 k a7 a6).trans ((y4 k a5 a6).trans (sk k a5))⟩
  · unfold zrf3
    rw [show (((e : Nat) : Int) - 0).toNat = e by omega, y1, if_neg (by decide), e1]
  · rw [e2, Nat.zero_add, Nat.zero_add, show u * (1 : K) = u from by grind]
/-- a FACTOR that is a number -/
theorem zrf3_v {K : Type} [Lean.Grind.CommRing K] {p : Int} {φ : Int → K} (h : zKp K p φ) (hp : 1 < p) {S : Nat → Nat → Int} {stt : Int} {u v : K} {a b : Nat} (h3 : S 0 3 = p) (c7 : zcan p (S 70)) (c4 : zcan p (S 4)) (q7 : zq φ (S 70) = kc_t u a b) (q4 : zq φ (S 4) = kc_t v 0 0) (hd : a + b ≤ 4) : ∃ B, zrf3 0 stt 1 S = (1, B) ∧ zq φ (B 70) = kc_t (u * v) a b ∧ zcan p (B 70) ∧ ∀ k, k ≠ 70 → k ≠ 6 → k ≠ 5 → B k = S k := by
  have s5 : zset S 5 (zone 1) 5 = zone 1 := zset_self _ _ _
  have sk : ∀ k, k ≠ 5 → zset S 5 (zone 1) k = S k := fun k hk => zset_ne _ _ hk
  obtain ⟨nm, x1, x2, x3⟩ := zmS_q h (by omega) (Q := zset S 5 (zone 1)) (c := 5) (d := 4) (u := 1) (v := v) (a := 0) (b := 0) (i := 0) (j := 0) (by decide) (by rw [sk 0 (by decide)]; exact h3) (by rw [s5]; exact zone_c1 hp) (by rw [sk 4 (by decide)]; exact c4) (by rw [s5]; exact zq_1 h) (by rw [sk 4 (by decide)]; exact q4) (by omega)
  have ep : zpwF 1 (zset S 5 (zone 1)) = (1, zmS (zset S 5 (zone 1)) 5 4) := by
    rw [zpwF_f nm]
    rfl
  have k7 : zmS (zset S 5 (zone 1)) 5 4 70 = S 70 := (x3 70 (by decide) (by decide)).trans (sk 70 (by decide))
  have k3 : zmS (zset S 5 (zone 1)) 5 4 0 = S 0 := (x3 0 (by decide) (by decide)).trans (sk 0 (by decide))
  obtain ⟨B, e1, e2, e3, e4⟩ := zrf4_q h (by omega) (S := zmS (zset S 5 (zone 1)) 5 4) (stt := stt) (a := a) (b := b) (i := 0 + 0) (j := 0 + 0) (u := u) (v := 1 * v) (by rw [k3]; exact h3) (by rw [k7]; exact c7) x2 (by rw [k7]; exact q7) x1 (by omega)
  refine ⟨B, ?_, ?_, e3, fun k a7 a6 a5 => (e4 k a7 a6).trans ((x3 k a5 a6).trans (sk k a5))⟩
  · unfold zrf3
    rw [show ((1 : Int) - 0).toNat = 1 from rfl, ep, if_neg (show ¬ (1 : Int) = 0 by decide), e1]
  · rw [e2, show u * (1 * v) = u * v from by grind]
    rfl
theorem zq_x {K : Type} [Lean.Grind.CommRing K] {p : Int} {φ : Int → K} (h : zKp K p φ) : zq φ (zput (zone 0) 1 0 1) = kc_t 1 1 0 := funext fun i => funext fun j => by
  unfold zq kc_t
  rw [zput_t (show zfits 1 0 from by unfold zfits; omega), show ((1 : Int) * 5 + 0).toNat = 5 from rfl]
  by_cases c : i + j ≤ 4
  · rw [if_pos c]
    unfold zup
    by_cases e : 5 * i + j = 5
    · rw [if_pos e, if_pos (by omega), h.o]
    · rw [if_neg e, if_neg (by omega), zone_0, h.z]
  · rw [if_neg c, if_neg (by omega)]
theorem zq_y {K : Type} [Lean.Grind.CommRing K] {p : Int} {φ : Int → K} (h : zKp K p φ) : zq φ (zput (zone 0) 0 1 1) = kc_t 1 0 1 := funext fun i => funext fun j => by
  unfold zq kc_t
  rw [zput_t (show zfits 0 1 from by unfold zfits; omega), show ((0 : Int) * 5 + 1).toNat = 1 from rfl]
  by_cases c : i + j ≤ 4
  · rw [if_pos c]
    unfold zup
    by_cases e : 5 * i + j = 1
    · rw [if_pos e, if_pos (by omega), h.o]
    · rw [if_neg e, if_neg (by omega), zone_0, h.z]
  · rw [if_neg c, if_neg (by omega)]
theorem zcan_x {p : Int} (hp : 1 < p) (i j : Int) (hf : zfits i j) : zcan p (zput (zone 0) i j 1) := by
  rw [zput_t hf]
  exact zcan_up (fun k => by rw [zone_0]; omega) _ (by omega)
end ZLx
