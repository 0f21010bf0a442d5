section ZEd
theorem ke_S_sum {K : Type} [Lean.Grind.CommRing K] {φ : Int → K} {W lim : Nat} {Kn : Nat → Int} {R : Nat → Nat → Int} (c : Nat → K) (F : Nat → Nat → K) : ∀ m, (∀ t, t < m → c t = 0 ∨ ke_S φ W lim Kn R (F t)) → ke_S φ W lim Kn R (fun k => ka_s (fun t => c t * F t k) m)
  | 0, _ => ke_S_zero
  | m + 1, h => by
    have ih := ke_S_sum c F m (fun t ht => h t (by omega))
    rcases h m (by omega) with q | q
    · exact ke_S_congr ih (fun k _ => by
        show ka_s (fun t => c t * F t k) m + c m * F m k = _
        rw [q, ka_zm, ka_az])
    · exact ke_S_add ih q (c m)
/-- a POLYNOMIAL as a line -/
def kvec {K : Type} [Lean.Grind.CommRing K] (F : Nat → Nat → K) : Nat → K := fun k => F (ndc k).1 (ndc k).2
/-- a line made of both CURVES: the one's multiples go along in the columns behind -/
def kGv {K : Type} [Lean.Grind.CommRing K] (f g : Nat → Nat → K) (n T : Nat) (v : Nat → K) : Prop := ∃ B P : Nat → Nat → K, (∀ i j, T ≤ ncol i j → B i j = 0) ∧ (∀ i j, n < i + j → P i j = 0) ∧ (∀ k, k < 45 → v k = kvec (kc_mul B f) k + kvec (kc_mul P g) k) ∧ ∀ t, t < 15 → v (45 + t) = kvec B t
theorem kc_mul_ac {K : Type} [Lean.Grind.CommRing K] (f g h : Nat → Nat → K) (c : K) : kc_mul (fun i j => f i j + c * g i j) h = fun i j => kc_mul f h i j + c * kc_mul g h i j := by
  have e := kc_mul_add f (fun i j => c * g i j) h
  rw [e, kc_mul_c]
theorem kGv_add {K : Type} [Lean.Grind.CommRing K] {f g : Nat → Nat → K} {n T : Nat} {v w : Nat → K} (hv : kGv f g n T v) (hw : kGv f g n T w) (c : K) : kGv f g n T (fun k => v k + c * w k) := by
  obtain ⟨B, P, b1, b2, b3, b4⟩ := hv
  obtain ⟨C, Q, c1, c2, c3, c4⟩ := hw
  refine ⟨fun i j => B i j + c * C i j, fun i j => P i j + c * Q i j, fun i j h => ?_, fun i j h => ?_, fun k hk => ?_, fun t ht => ?_⟩
  · show B i j + c * C i j = 0
    rw [b1 i j h, c1 i j h, ka_mz, ka_az]
  · show P i j + c * Q i j = 0
    rw [b2 i j h, c2 i j h, ka_mz, ka_az]
  · show v k + c * w k = _
    rw [b3 k hk, c3 k hk, kc_mul_ac, kc_mul_ac]
    unfold kvec
    grind
  · show v (45 + t) + c * w (45 + t) = B (ndc t).1 (ndc t).2 + c * C (ndc t).1 (ndc t).2
    rw [b4 t ht, c4 t ht]; rfl
theorem kc_zmul {K : Type} [Lean.Grind.CommRing K] (f : Nat → Nat → K) (i j : Nat) : kc_mul (fun _ _ => 0) f i j = 0 := ka_s_zero _ (fun a _ => ka_s_zero _ (fun b _ => ka_zm _))
theorem kGv_zero {K : Type} [Lean.Grind.CommRing K] {f g : Nat → Nat → K} {n T : Nat} : kGv f g n T (fun _ => 0) := ⟨fun _ _ => 0, fun _ _ => 0, fun _ _ _ => rfl, fun _ _ _ => rfl, fun k _ => by
  unfold kvec
  rw [kc_zmul, kc_zmul, ka_az], fun t _ => rfl⟩
theorem kGv_mono {K : Type} [Lean.Grind.CommRing K] {f g : Nat → Nat → K} {n T U : Nat} {v : Nat → K} (hv : kGv f g n T v) (h : T ≤ U) : kGv f g n U v := by
  obtain ⟨B, P, b1, b2, b3, b4⟩ := hv
  exact ⟨B, P, fun i j q => b1 i j (by omega), b2, b3, b4⟩
theorem kGv_congr {K : Type} [Lean.Grind.CommRing K] {f g : Nat → Nat → K} {n T : Nat} {v w : Nat → K} (hv : kGv f g n T v) (e : ∀ k, k < 60 → w k = v k) : kGv f g n T w := by
  obtain ⟨B, P, b1, b2, b3, b4⟩ := hv
  exact ⟨B, P, b1, b2, fun k hk => by rw [e k (by omega)]; exact b3 k hk, fun t ht => by rw [e _ (by omega)]; exact b4 t ht⟩
theorem kGv_sum {K : Type} [Lean.Grind.CommRing K] {f g : Nat → Nat → K} {n T : Nat} (c : Nat → K) (F : Nat → Nat → K) : ∀ m, (∀ t, t < m → c t = 0 ∨ kGv f g n T (F t)) → kGv f g n T (fun k => ka_s (fun t => c t * F t k) m)
  | 0, _ => kGv_zero
  | m + 1, h => by
    have ih := kGv_sum c F m (fun t ht => h t (by omega))
    rcases h m (by omega) with q | q
    · exact kGv_congr ih (fun k _ => by
        show ka_s (fun t => c t * F t k) m + c m * F m k = _
        rw [q, ka_zm, ka_az])
    · exact kGv_add ih q (c m)
/-- the rows' state: in steps, and made of both -/
def kRw {K : Type} [Lean.Grind.CommRing K] (φ : Int → K) (f g : Nat → Nat → K) (n T : Nat) (s : zSg) : Prop := ke_E φ 45 s.2.1 s.1 ∧ ∀ q, q < 45 → s.2.1 q ≠ 0 → kGv f g n T (fun k => φ (s.1 q k))
theorem kRw_step {K : Type} [Lean.Grind.CommRing K] {p : Int} {φ : Int → K} (h : zKp K p φ) (hp : 2 ≤ p) {f g : Nat → Nat → K} {n T : Nat} {s : zSg} (hs : kRw φ f g n T s) {c : Nat → Int} (hc : zcan p c) (hg : kGv f g n T (fun k => φ (c k))) : kRw φ f g n T (zsg p c s) := by
  obtain ⟨hE, hr⟩ := hs
  have nx := ke_next h hp (w := 60) (lim := 45) (by decide) hE hc
  refine ⟨nx.1, fun q hq hk => ?_⟩
  rcases ke_add h hp (w := 60) (lim := 45) (by decide) hE hc with ⟨_, f2, f3, _⟩ | ⟨r, α, u, g1, g2, g3, g4, g5, g6, g7, g8, g9, g10, _, _⟩
  · have e1 : (zsg p c s).1 = s.1 := f2
    have e2 : (zsg p c s).2.1 = s.2.1 := f3
    rw [e2] at hk
    rw [e1]; exact hr q hq hk
  · by_cases e : q = r
    · obtain ⟨x, hx⟩ := h.F.2 u g6
      have sm : kGv f g n T (fun k => ka_s (fun q => α q * φ (s.1 q k)) 45) := kGv_sum α (fun q k => φ (s.1 q k)) 45 (fun t ht => by
        by_cases z : s.2.1 t = 0
        · exact Or.inl (g7 t z)
        · exact Or.inr (hr t ht z))
      have s2 := kGv_add (kGv_zero (f := f) (g := g) (n := n) (T := T)) (kGv_add hg sm (-1)) x
      refine kGv_congr s2 (fun k hk => ?_)
      show φ (zspR s.2.1 s.1 60 45 p c q k) = 0 + x * (φ (c k) + (-1) * ka_s (fun q => α q * φ (s.1 q k)) 45)
      have e8 := g8 k hk
      rw [e]
      have e9 : φ (c k) = u * φ (zspR s.2.1 s.1 60 45 p c r k) + ka_s (fun q => α q * φ (s.1 q k)) 45 := e8
      rw [e9, show 0 + x * (u * φ (zspR s.2.1 s.1 60 45 p c r k) + ka_s (fun q => α q * φ (s.1 q k)) 45 + -1 * ka_s (fun q => α q * φ (s.1 q k)) 45) = (u * x) * φ (zspR s.2.1 s.1 60 45 p c r k) by grind, hx, ka_om]
    · have e1 : (zsg p c s).1 q = s.1 q := g5 q e
      have e2 : (zsg p c s).2.1 = zup s.2.1 r 1 := g4
      rw [e2, zup_ne _ _ e] at hk
      rw [e1]; exact hr q hq hk
theorem kvec_out {K : Type} [Lean.Grind.CommRing K] {F : Nat → Nat → K} (hF : ∀ i j, 8 < i + j → F i j = 0) {k : Nat} (hk : 45 ≤ k) : kvec F k = 0 := by
  unfold kvec
  refine hF _ _ (Classical.byContradiction fun q => ?_)
  have := ncol_lt (i := (ndc k).1) (j := (ndc k).2) (d := 9) (by omega)
  rw [ncol_ndc, nT_9.1] at this
  omega
theorem kc_t_dg {K : Type} [Lean.Grind.CommRing K] {c : K} {r u d : Nat} (h : r + u ≤ d) : ∀ i j, d < i + j → kc_t c r u i j = 0 := fun i j q => if_neg (by omega)
/-- the lines of the second CURVE are laid -/
def kFl {K : Type} [Lean.Grind.CommRing K] (φ : Int → K) (f g : Nat → Nat → K) (n T : Nat) (s : zSg) : Prop := kRw φ f g n 0 s ∧ ∀ i j, ncol i j < T → ke_S φ 45 45 s.2.1 s.1 (kvec (kc_mul (kc_t 1 i j) g))
theorem kfill {K : Type} [Lean.Grind.CommRing K] {p : Int} {φ : Int → K} (h : zKp K p φ) (hp : 2 ≤ p) {a b : Nat → Int} (hb : zcan p b) (R : Nat → Nat → Int) (l : Nat → Int) {n : Nat} (hn : (n : Int) = ztop a) (hn4 : n ≤ 4) : kFl φ (zq φ a) (zq φ b) n (nT (n + 1)) (zfnd a b p R l) := by
  unfold zfnd
  rw [← hn, show ((n : Int) + 1 - 0).toNat = n + 1 by omega]
  have st : ∀ (d j : Nat) (s : zSg), d ≤ n → j ≤ d → kFl φ (zq φ a) (zq φ b) n (nT d + j) s → kFl φ (zq φ a) (zq φ b) n (nT d + (j + 1)) (zfill_in b p d j s) := by
    intro d j s hd hj ⟨h1, h2⟩
    have ec : zfill_in b p d j s = zsg p (zline b ((d - j : Nat) : Int) (j : Int)) s := by
      unfold zfill_in
      rw [show ((d : Int) - (j : Int)) = ((d - j : Nat) : Int) by omega]
    have hc : zcan p (zline b ((d - j : Nat) : Int) (j : Int)) := zline_can (by omega) hb
    have lk : ∀ k, φ (zline b ((d - j : Nat) : Int) (j : Int) k) = kvec (kc_mul (kc_t 1 (d - j) j) (zq φ b)) k := fun k => zline_K h b (d - j) j (by omega) k
    have dz : ∀ x y, 8 < x + y → kc_mul (kc_t (1 : K) (d - j) j) (zq φ b) x y = 0 := fun x y hxy => kc_zero (n := d) (m := 4) (kc_t_dg (by omega)) zq_flt x y (by omega)
    have hg : kGv (zq φ a) (zq φ b) n 0 (fun k => φ (zline b ((d - j : Nat) : Int) (j : Int) k)) := ⟨fun _ _ => 0, kc_t 1 (d - j) j, fun _ _ _ => rfl, kc_t_dg (by omega), fun k _ => by
      refine (lk k).trans ?_
      unfold kvec
      rw [kc_zmul, ka_za], fun t _ => by
      refine (lk _).trans ?_
      rw [kvec_out dz (by omega)]; rfl⟩
    have nx := ke_next h hp (w := 60) (lim := 45) (by decide) h1.1 hc
    rw [ec]
    refine ⟨kRw_step h hp h1 hc hg, fun x y hxy => ?_⟩
    by_cases e : ncol x y < nT d + j
    · exact nx.2.1 45 _ (by decide) (h2 x y e)
    · have e2 : ncol x y = ncol (d - j) j := by
        have : ncol (d - j) j = nT d + j := by
          unfold ncol
          rw [show d - j + j = d by omega]
        omega
      obtain ⟨e3, e4⟩ := ncol_inj e2
      rw [e3, e4]
      exact ke_S_congr nx.2.2.1 (fun k _ => (lk k).symm)
  refine zfor_ix (I := fun d s => kFl φ (zq φ a) (zq φ b) n (nT d) s) ⟨⟨fun q _ hk => absurd rfl hk, fun q _ hk => absurd rfl hk⟩, fun i j hij => absurd hij (by show ¬ ncol i j < nT 0; have : nT 0 = 0 := rfl; omega)⟩ (n + 1) (fun d s hd hs => ?_)
  rw [show 0 + (d : Int) = (d : Int) by omega, nT_s]
  show kFl φ (zq φ a) (zq φ b) n (nT d + (d + 1)) (zfor (zfill_in b p d) 0 s ((d : Int) + 1 - 0).toNat)
  rw [show ((d : Int) + 1 - 0).toNat = d + 1 by omega]
  refine zfor_ix (I := fun j s => kFl φ (zq φ a) (zq φ b) n (nT d + j) s) (by rw [Nat.add_zero]; exact hs) (d + 1) (fun j t hj ht => ?_)
  rw [show 0 + (j : Int) = (j : Int) by omega]
  exact st d j t (by omega) (by omega) ht
end ZEd
