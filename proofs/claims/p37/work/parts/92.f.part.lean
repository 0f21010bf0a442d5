section ZEf
/-- the one couple whose multiples all are -/
def kUW {K : Type} [Lean.Grind.CommRing K] (f g u w h : Nat → Nat → K) : Prop := kc_pl u ∧ kc_pl w ∧ kc_pl h ∧ (∃ i j, u i j ≠ 0) ∧ (∃ i j, w i j ≠ 0) ∧ f = kc_mul h w ∧ g = kc_mul h u ∧ ∀ u' w', kc_pl u' → kc_pl w' → kc_mul u' f = kc_mul w' g → ∃ c, kc_pl c ∧ u' = kc_mul c u ∧ w' = kc_mul c w
theorem kc_ed {K : Type} [Lean.Grind.CommRing K] {F : Nat → Nat → K} (h : kc_pl F) (h0 : ∃ i j, F i j ≠ 0) : ∃ n, (∀ i j, n < i + j → F i j = 0) ∧ ∃ i j, i + j = n ∧ F i j ≠ 0 := by
  obtain ⟨N, hN⟩ := h
  obtain ⟨m, hm, hk⟩ := ka_min (P := fun n => ∀ i j, n ≤ i + j → F i j = 0) N hN
  obtain ⟨i0, j0, h0⟩ := h0
  cases m with
  | zero => exact absurd (hm i0 j0 (Nat.zero_le _)) h0
  | succ m =>
    refine ⟨m, fun i j hij => hm i j hij, ?_⟩
    refine Classical.byContradiction fun z => hk m (by omega) (fun i j hij => ?_)
    by_cases e : i + j = m
    · exact Classical.byContradiction fun y => z ⟨i, j, e, y⟩
    · exact hm i j (by omega)
theorem kc_ed_u {K : Type} [Lean.Grind.CommRing K] {F : Nat → Nat → K} {n m : Nat} (h1 : ∀ i j, n < i + j → F i j = 0) (h2 : ∃ i j, i + j = n ∧ F i j ≠ 0) (h3 : ∀ i j, m < i + j → F i j = 0) (h4 : ∃ i j, i + j = m ∧ F i j ≠ 0) : n = m := by
  obtain ⟨i, j, a, b⟩ := h2
  obtain ⟨i', j', c, d⟩ := h4
  have e1 : ¬ m < i + j := fun q => b (h3 i j q)
  have e2 : ¬ n < i' + j' := fun q => d (h1 i' j' q)
  omega
theorem kFd_u {K : Type} [Lean.Grind.CommRing K] {φ : Int → K} (hK : ka_F K) {f g u w h : Nat → Nat → K} {n m : Nat} {c : Nat → Int} (hU : kUW f g u w h) (hf : ∀ i j, n < i + j → f i j = 0) (hf1 : ∃ i j, i + j = n ∧ f i j ≠ 0) (hF : kFd φ f g n m c) : ∃ c0 : K, c0 ≠ 0 ∧ zq φ c = fun i j => c0 * u i j := by
  obtain ⟨pu, pw, ph, u0, w0, ef, eg, al⟩ := hU
  obtain ⟨d, j, B, P, hdm, hj, B1, BT, P1, BP, eB, N⟩ := hF
  have Bd : ∀ x y, d < x + y → B x y = 0 := fun x y hxy => BT x y (by
    have := ncol_ge (i := x) (j := y) (d := d + 1) (by omega)
    rw [nT_s] at this
    omega)
  obtain ⟨c, pc, e1, e2⟩ := al B P ⟨d + 1, fun x y h => Bd x y (by omega)⟩ ⟨n + 1, fun x y h => P1 x y (by omega)⟩ (funext fun x => funext fun y => BP x y)
  have B0 : ∃ x y, B x y ≠ 0 := ⟨d - j, j, by rw [B1]; exact hK.1⟩
  have c0 : ∃ x y, c x y ≠ 0 := Classical.byContradiction fun z => by
    obtain ⟨x, y, hxy⟩ := B0
    apply hxy
    rw [e1]
    have cz : c = fun _ _ => 0 := funext fun x => funext fun y => Classical.byContradiction fun q => z ⟨x, y, q⟩
    rw [cz]
    exact kc_zmul u x y
  obtain ⟨nc, c1, c2⟩ := kc_ed pc c0
  obtain ⟨nu, u1, u2⟩ := kc_ed pu u0
  obtain ⟨nh, h1, h2⟩ := kc_ed ph (Classical.byContradiction fun z => by
    obtain ⟨x, y, _, hxy⟩ := hf1
    apply hxy
    rw [ef]
    have cz : h = fun _ _ => 0 := funext fun x => funext fun y => Classical.byContradiction fun q => z ⟨x, y, q⟩
    rw [cz]
    exact kc_zmul w x y)
  obtain ⟨nw, w1, w2⟩ := kc_ed pw w0
  have ex := kc_exact hK c1 u1 c2 u2
  rw [← e1] at ex
  have ex2 := kc_exact hK h1 w1 h2 w2
  rw [← ef] at ex2
  have ed : nc + nu ≤ d := by
    obtain ⟨x, y, a, b⟩ := ex
    exact Classical.byContradiction fun q => b (Bd x y (by omega))
  have en : nh + nw ≤ n := by
    obtain ⟨x, y, a, b⟩ := ex2
    exact Classical.byContradiction fun q => b (hf x y (by omega))
  have nc0 : nc = 0 := Classical.byContradiction fun q => by
    obtain ⟨x, y, hxy⟩ := u0
    refine hxy (N u w (fun x y hn => u1 x y (Classical.byContradiction fun z => ?_)) (fun x y hn => w1 x y (by omega)) (fun x y => ?_) x y)
    · have := ncol_lt (i := x) (j := y) (d := d) (by omega)
      omega
    · rw [ef, eg, ← kc_mul_assoc, ← kc_mul_assoc, kc_mul_comm u h, kc_mul_assoc, kc_mul_comm w h, kc_mul_assoc, kc_mul_comm u w]
  have cc : c = kc_t (c 0 0) 0 0 := funext fun x => funext fun y => by
    unfold kc_t
    by_cases z : x = 0 ∧ y = 0
    · rw [if_pos z, z.1, z.2]
    · rw [if_neg z]; exact c1 x y (by omega)
  refine ⟨c 0 0, fun z => ?_, ?_⟩
  · obtain ⟨x, y, a, b⟩ := c2
    rw [show x = 0 by omega, show y = 0 by omega] at b
    exact b z
  · rw [eB, e1, cc, kc_c_mul]
    funext x y
    show c 0 0 * u x y = kc_t (c 0 0) 0 0 0 0 * u x y
    rw [show kc_t (c 0 0) 0 0 0 0 = c 0 0 from if_pos ⟨rfl, rfl⟩]
theorem kfcI {K : Type} [Lean.Grind.CommRing K] {p : Int} {φ : Int → K} (h : zKp K p φ) (hp : 2 ≤ p) {a : Nat → Int} {g : Nat → Nat → K} (ha : zcan p a) {n m d : Nat} (hn4 : n ≤ 4) (hd : d ≤ 4) (hdm : d ≤ m) (hg4 : ∀ x y, 4 < x + y → g x y = 0) : ∀ (k j : Nat) (s : zSg), j + k = d + 1 → kCf φ (zq φ a) g n (nT d + j) s → (∃ c t, zfcI a p d k j s = (some c, t) ∧ kFd φ (zq φ a) g n m c) ∨ ∃ t, zfcI a p d k j s = (none, t) ∧ kCf φ (zq φ a) g n (nT (d + 1)) t
  | 0, j, s, hj, hs => Or.inr ⟨s, rfl, by rw [nT_s, show d + 1 = j by omega]; exact hs⟩
  | k + 1, j, s, hj, hs => by
    have e : zfcI a p d (k + 1) j s = (if zsp1 s.2.1 s.1 60 45 p (zfcl a d j) = 0 then (some (ztake (zsg p (zfcl a d j) s).2.2 (zone 1)), zsg p (zfcl a d j) s) else zfcI a p d k ((j : Int) + 1) (zsg p (zfcl a d j) s)) := rfl
    rw [e]
    rcases kcof_step h hp ha hn4 hd hdm (by omega) hg4 hs with ⟨q1, q2⟩ | ⟨q1, q2⟩
    · rw [if_pos q1]
      exact Or.inl ⟨_, _, rfl, q2⟩
    · rw [if_neg q1, show (j : Int) + 1 = ((j + 1 : Nat) : Int) by omega]
      exact kfcI h hp ha hn4 hd hdm hg4 k (j + 1) _ (by omega) q2
theorem kfcO {K : Type} [Lean.Grind.CommRing K] {p : Int} {φ : Int → K} (h : zKp K p φ) (hp : 2 ≤ p) {a : Nat → Int} {g : Nat → Nat → K} (ha : zcan p a) {n m : Nat} (hn4 : n ≤ 4) (hm : m ≤ 4) (hg4 : ∀ x y, 4 < x + y → g x y = 0) : ∀ (k d : Nat) (s : zSg), d + k = m + 1 → kCf φ (zq φ a) g n (nT d) s → (∃ c t, zfcO a p k d s = (some c, t) ∧ kFd φ (zq φ a) g n m c) ∨ ∃ t, zfcO a p k d s = (none, t) ∧ kCf φ (zq φ a) g n (nT (m + 1)) t
  | 0, d, s, hd, hs => Or.inr ⟨s, rfl, by rw [show m + 1 = d by omega]; exact hs⟩
  | k + 1, d, s, hd, hs => by
    have e : zfcO a p (k + 1) d s = (match zfcI a p d ((d : Int) + 1 - 0).toNat 0 s with
      | (some c, s2) => (some c, s2)
      | (none, s2) => zfcO a p k ((d : Int) + 1) s2) := rfl
    rw [e, show ((d : Int) + 1 - 0).toNat = d + 1 by omega]
    rcases kfcI h hp ha (d := d) hn4 (by omega) (by omega) hg4 (m := m) (d + 1) 0 s (by omega) (by rw [Nat.add_zero]; exact hs) with ⟨c, t, q1, q2⟩ | ⟨t, q1, q2⟩
    · have q1' : zfcI a p d (d + 1) 0 s = (some c, t) := q1
      rw [q1']
      exact Or.inl ⟨c, t, rfl, q2⟩
    · have q1' : zfcI a p d (d + 1) 0 s = (none, t) := q1
      rw [q1', show (d : Int) + 1 = ((d + 1 : Nat) : Int) by omega]
      exact kfcO h hp ha hn4 hm hg4 k (d + 1) t (by omega) q2
/-- the cofactor is the one of the couple, but for a number -/
theorem kcofa {K : Type} [Lean.Grind.CommRing K] {p : Int} {φ : Int → K} (h : zKp K p φ) (hp : 2 ≤ p) {a b : Nat → Int} (ha : zcan p a) (hb : zcan p b) (ta : 0 ≤ ztop a) (tb : 0 ≤ ztop b) (R : Nat → Nat → Int) (l : Nat → Int) {u w hh : Nat → Nat → K} (hU : kUW (zq φ a) (zq φ b) u w hh) : ∃ c0 : K, c0 ≠ 0 ∧ zq φ (zcofa a b p R l) = fun i j => c0 * u i j := by
  obtain ⟨n, hn⟩ : ∃ n : Nat, (n : Int) = ztop a := ⟨(ztop a).toNat, by omega⟩
  obtain ⟨m, hm⟩ : ∃ m : Nat, (m : Int) = ztop b := ⟨(ztop b).toNat, by omega⟩
  have n4 : n ≤ 4 := by have := zT_le a; omega
  have m4 : m ≤ 4 := by have := zT_le b; omega
  have fa : ∀ i j, n < i + j → zq φ a i j = 0 := fun i j hij => by
    by_cases q : i + j ≤ 4
    · rw [zq_t q, zT_z (c := a) q (by omega), h.z]
    · exact zq_f q
  have fb : ∀ i j, m < i + j → zq φ b i j = 0 := fun i j hij => by
    by_cases q : i + j ≤ 4
    · rw [zq_t q, zT_z (c := b) q (by omega), h.z]
    · exact zq_f q
  have fa1 : ∃ i j, i + j = n ∧ zq φ a i j ≠ 0 := by
    obtain ⟨i, j, q1, q2, q3⟩ := zT_ex ta
    exact ⟨i, j, by omega, by rw [zq_t q1]; exact fun z => q3 ((h.z0 (ha _)).1 z)⟩
  have fb1 : ∃ i j, i + j = m ∧ zq φ b i j ≠ 0 := by
    obtain ⟨i, j, q1, q2, q3⟩ := zT_ex tb
    exact ⟨i, j, by omega, by rw [zq_t q1]; exact fun z => q3 ((h.z0 (hb _)).1 z)⟩
  obtain ⟨f1, f2⟩ := kfill h hp (a := a) (b := b) hb R l hn n4
  have c0 : kCf φ (zq φ a) (zq φ b) n (nT 0) (zfnd a b p R l) := ⟨f1, fun i j hij => f2 i j (ncol_lt (by omega)), fun i j hij => absurd hij (by show ¬ ncol i j < nT 0; have : nT 0 = 0 := rfl; omega), fun B P hB _ _ i j => hB i j (by have : nT 0 = 0 := rfl; omega)⟩
  have hfd : kFd φ (zq φ a) (zq φ b) n m (zcofa a b p R l) := by
    unfold zcofa zfc
    rw [← hm, show ((m : Int) + 1 - 0).toNat = m + 1 by omega]
    rcases kfcO h hp ha n4 m4 zq_flt (m := m) (g := zq φ b) (m + 1) 0 (zfnd a b p R l) (by omega) c0 with ⟨c, t, q1, q2⟩ | ⟨t, q1, q2⟩
    · have q1' : zfcO a p (m + 1) 0 (zfnd a b p R l) = (some c, t) := q1
      rw [q1']
      exact q2
    · obtain ⟨i, j, _, hij⟩ := fb1
      refine absurd (q2.2.2.2 (zq φ b) (zq φ a) (fun x y hxy => fb x y (Classical.byContradiction fun z => ?_)) fa (fun x y => by rw [kc_mul_comm]) i j) hij
      have := ncol_lt (i := x) (j := y) (d := m + 1) (by omega)
      omega
  exact kFd_u h.F hU fa fa1 hfd
end ZEf
