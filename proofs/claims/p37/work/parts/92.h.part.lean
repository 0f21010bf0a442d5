section ZEh
theorem zsp_can2 {Kn : Nat → Int} {R : Nat → Nat → Int} {w p : Int} (hp : 0 < p) : ∀ (n : Nat) (i : Int) (c : Nat → Int), zcan p c → zcan p (zsp Kn R w p n i c).2
  | 0, _, _, h => h
  | n + 1, i, c, h => by
    show zcan p (if c i.toNat = 0 then zsp Kn R w p n (i + 1) c else if Kn i.toNat = 0 then (some i, c) else zsp Kn R w p n (i + 1) (zlin (R i.toNat) (p - c i.toNat) p w i c)).2
    split
    · exact zsp_can2 hp n _ _ h
    split
    · exact h
    · exact zsp_can2 hp n _ _ (zfor_inv (zcan p) h (fun k x hx => zcan_up hx _ ⟨Int.emod_nonneg _ (by omega), Int.emod_lt_of_pos _ hp⟩) _)
theorem zfcI_can2 {a : Nat → Int} {p : Int} (hp : 2 ≤ p) (ha : zcan p a) {d : Int} : ∀ (k : Nat) (j : Int) (s t : zSg) (c : Nat → Int), zfcI a p d k j s = (some c, t) → zcan p c
  | 0, _, _, _, _, h => by cases h
  | k + 1, j, s, t, c, h => by
    have e : zfcI a p d (k + 1) j s = (if zsp1 s.2.1 s.1 60 45 p (zfcl a d j) = 0 then (some (ztake (zsg p (zfcl a d j) s).2.2 (zone 1)), zsg p (zfcl a d j) s) else zfcI a p d k (j + 1) (zsg p (zfcl a d j) s)) := rfl
    rw [e] at h
    by_cases q : zsp1 s.2.1 s.1 60 45 p (zfcl a d j) = 0
    · rw [if_pos q] at h
      have h2 := congrArg Prod.fst h
      have h3 : ztake (zsg p (zfcl a d j) s).2.2 (zone 1) = c := Option.some.inj h2
      rw [← h3]
      exact ztake_can (zsp_can2 (by omega) _ _ _ (zsc_can (zline_can (by omega) ha) (by omega))) (zone_can (by omega) (by omega))
    · rw [if_neg q] at h
      exact zfcI_can2 hp ha k (j + 1) _ t c h
theorem zfcO_can2 {a : Nat → Int} {p : Int} (hp : 2 ≤ p) (ha : zcan p a) : ∀ (k : Nat) (d : Int) (s t : zSg) (c : Nat → Int), zfcO a p k d s = (some c, t) → zcan p c
  | 0, _, _, _, _, h => by cases h
  | k + 1, d, s, t, c, h => by
    have e : zfcO a p (k + 1) d s = (match zfcI a p d (d + 1 - 0).toNat 0 s with
      | (some c, s2) => (some c, s2)
      | (none, s2) => zfcO a p k (d + 1) s2) := rfl
    rw [e] at h
    obtain ⟨o, s2, hx⟩ : ∃ o s2, zfcI a p d (d + 1 - 0).toNat 0 s = (o, s2) := ⟨_, _, rfl⟩
    rw [hx] at h
    cases o with
    | none => exact zfcO_can2 hp ha k (d + 1) s2 t c h
    | some c' =>
      have h2 := congrArg Prod.fst h
      have h3 : c' = c := Option.some.inj h2
      rw [← h3]
      exact zfcI_can2 hp ha _ _ _ _ _ hx
theorem zcofa_can {a b : Nat → Int} {p : Int} (hp : 2 ≤ p) (ha : zcan p a) (R : Nat → Nat → Int) (l : Nat → Int) : zcan p (zcofa a b p R l) := by
  unfold zcofa zfc
  obtain ⟨o, s2, hx⟩ : ∃ o s2, zfcO a p (ztop b + 1 - 0).toNat 0 (zfnd a b p R l) = (o, s2) := ⟨_, _, rfl⟩
  rw [hx]
  cases o with
  | none => exact zone_can (by omega) (by omega)
  | some c => exact zfcO_can2 hp ha _ _ _ _ _ hx
theorem zT_eq {K : Type} [Lean.Grind.CommRing K] {p : Int} {φ : Int → K} (h : zKp K p φ) {c : Nat → Int} (hc : ∀ i j : Nat, i + j ≤ 4 → 0 ≤ c (5 * i + j) ∧ c (5 * i + j) < p) {n : Nat} (h1 : ∀ i j, n < i + j → zq φ c i j = 0) (h2 : ∃ i j, i + j = n ∧ zq φ c i j ≠ 0) : ztop c = n := by
  obtain ⟨i, j, e, q⟩ := h2
  have ij : i + j ≤ 4 := Classical.byContradiction fun z => q (zq_f z)
  rw [zq_t ij] at q
  have a := (zT_all c).1 i j ij (fun z => q (by rw [z, h.z]))
  rcases (zT_all c).2 with z | ⟨x, y, z1, z2, z3⟩
  · omega
  · have b : ¬ n < x + y := fun w => z3 ((h.z0 (hc x y z1)).1 (by have := h1 x y w; rw [zq_t z1] at this; exact this))
    omega
theorem zT_ed {K : Type} [Lean.Grind.CommRing K] {p : Int} {φ : Int → K} (h : zKp K p φ) {c : Nat → Int} (hc : ∀ i j : Nat, i + j ≤ 4 → 0 ≤ c (5 * i + j) ∧ c (5 * i + j) < p) {n : Nat} (hn : (n : Int) = ztop c) : (∀ i j, n < i + j → zq φ c i j = 0) ∧ ∃ i j, i + j = n ∧ zq φ c i j ≠ 0 := by
  refine ⟨fun i j hij => ?_, ?_⟩
  · by_cases q : i + j ≤ 4
    · rw [zq_t q, zT_z (c := c) q (by omega), h.z]
    · exact zq_f q
  · obtain ⟨i, j, q1, q2, q3⟩ := zT_ex (c := c) (by omega)
    exact ⟨i, j, by omega, by rw [zq_t q1]; exact fun z => q3 ((h.z0 (hc i j q1)).1 z)⟩
/-- the first TERM has 1 -/
def kL1 {K : Type} [Lean.Grind.CommRing K] (F : Nat → Nat → K) : Prop := ∃ L X, kLd F L X ∧ F X (L - X) = 1
theorem kL1_u {K : Type} [Lean.Grind.CommRing K] (hK : ka_F K) {F G H : Nat → Nat → K} {a b : K} (hF : F = fun i j => a * H i j) (hG : G = fun i j => b * H i j) (h1 : kL1 F) (h2 : kL1 G) : F = G := by
  obtain ⟨L, X, ⟨x1, x2, x3, x4⟩, x5⟩ := h1
  obtain ⟨M, Y, ⟨y1, y2, y3, y4⟩, y5⟩ := h2
  have a0 : a ≠ 0 := fun z => x2 (by rw [hF, z]; exact ka_zm _)
  have b0 : b ≠ 0 := fun z => y2 (by rw [hG, z]; exact ka_zm _)
  have eqv : ∀ i j, F i j = 0 ↔ G i j = 0 := fun i j => by
    rw [hF, hG]
    constructor
    · intro z
      rcases hK.dom _ _ z with q | q
      · exact absurd q a0
      · show b * H i j = 0
        rw [q, ka_mz]
    · intro z
      rcases hK.dom _ _ z with q | q
      · exact absurd q b0
      · show a * H i j = 0
        rw [q, ka_mz]
  have eL : L = M := by
    have e1 : ¬ M < L := fun z => x2 ((eqv _ _).2 (y3 _ _ (by omega)))
    have e2 : ¬ L < M := fun z => y2 ((eqv _ _).1 (x3 _ _ (by omega)))
    omega
  have eX : X = Y := by
    have e1 : ¬ Y < X := fun z => x2 ((eqv _ _).2 (by rw [eL]; exact y4 X z (by omega)))
    have e2 : ¬ X < Y := fun z => y2 ((eqv _ _).1 (by rw [← eL]; exact x4 Y z (by omega)))
    omega
  rw [← eL, ← eX] at y5
  have hx : a * H X (L - X) = 1 := by rw [hF] at x5; exact x5
  have hy : b * H X (L - X) = 1 := by rw [hG] at y5; exact y5
  have ab : a = b := by
    have e : a * (b * H X (L - X)) = b * (a * H X (L - X)) := by grind
    rw [hx, hy] at e
    grind
  rw [hF, hG, ab]
theorem knorm {K : Type} [Lean.Grind.CommRing K] {p : Int} {φ : Int → K} (h : zKp K p φ) (hp : 2 ≤ p) {c : Nat → Int} (hc : zcan p c) (tc : 0 ≤ ztop c) : (∃ ν : K, ν ≠ 0 ∧ zq φ (znorm c p) = fun i j => ν * zq φ c i j) ∧ kL1 (zq φ (znorm c p)) := by
  obtain ⟨L, hL⟩ : ∃ L : Nat, (L : Int) = ztop c := ⟨(ztop c).toNat, by omega⟩
  have tr := zT_le c
  have fe : ∀ i j, L < i + j → zq φ c i j = 0 := (zT_ed h (fun i j _ => hc _) hL).1
  obtain ⟨X, hX1, hX2, hX3, hX4⟩ : ∃ X : Nat, X ≤ L ∧ zlead c L = X ∧ c (5 * X + (L - X)) ≠ 0 ∧ ∀ k' : Nat, X < k' → k' ≤ L → c (5 * k' + (L - k')) = 0 := by
    rcases zlead_sp c (d := L) (by omega) with ⟨_, z⟩ | z
    · obtain ⟨i, j, q1, q2, q3⟩ := zT_ex tc
      have := z i (by omega)
      rw [show L - i = j by omega] at this
      exact absurd this q3
    · exact z
  have n0 : φ (c (5 * X + (L - X))) ≠ 0 := fun z => hX3 ((h.z0 (hc _)).1 z)
  have iv := zK_inv h hp n0
  have en : ∀ i j, i + j ≤ 4 → φ (znorm c p (5 * i + j)) = φ (zinv (c (5 * X + (L - X))) p) * φ (c (5 * i + j)) := fun i j hij => by
    unfold znorm
    rw [← hL, hX2, show ((L : Int) - (X : Int)) = ((L - X : Nat) : Int) by omega, zatN (by omega), h.em, h.ml]
    exact Lean.Grind.CommSemiring.mul_comm _ _
  have e0 : zq φ (znorm c p) = fun i j => φ (zinv (c (5 * X + (L - X))) p) * zq φ c i j := funext fun i => funext fun j => by
    by_cases q : i + j ≤ 4
    · rw [zq_t q, zq_t q, en i j q]
    · rw [zq_f q, zq_f q, ka_mz]
  have v0 : φ (zinv (c (5 * X + (L - X))) p) ≠ 0 := fun z => h.F.1 (by rw [← iv, z, ka_mz])
  refine ⟨⟨_, v0, e0⟩, L, X, ⟨hX1, ?_, fun i j hij => ?_, fun i h1 h2 => ?_⟩, ?_⟩
  · rw [e0]
    intro z
    rcases h.F.dom _ _ z with q | q
    · exact v0 q
    · rw [zq_t (by omega)] at q
      exact n0 q
  · rw [e0]
    show _ * zq φ c i j = 0
    rw [fe i j hij, ka_mz]
  · rw [e0]
    show _ * zq φ c i (L - i) = 0
    rw [zq_t (by omega), hX4 i h1 h2, h.z, ka_mz]
  · rw [e0]
    show _ * zq φ c X (L - X) = 1
    rw [zq_t (by omega), Lean.Grind.CommSemiring.mul_comm]; exact iv
/-- the COMMON PART of the class -/
theorem kpartC {K : Type} [Lean.Grind.CommRing K] {p : Int} {φ : Int → K} (h : zKp K p φ) (hp : 2 ≤ p) {a b : Nat → Int} (ha : zcan p a) (hb : zcan p b) (ta : 0 ≤ ztop a) (tb : 0 ≤ ztop b) {u w hh : Nat → Nat → K} (hU : kUW (zq φ a) (zq φ b) u w hh) : (∃ ν : K, ν ≠ 0 ∧ zq φ (zcmP a b p) = fun i j => ν * hh i j) ∧ kL1 (zq φ (zcmP a b p)) := by
  obtain ⟨c, hcd⟩ : ∃ c, c = zcofa a b p (fun _ _ => 0) (fun _ => 0) := ⟨_, rfl⟩
  obtain ⟨c0, c1, c2⟩ := kcofa h hp ha hb ta tb (fun _ _ => 0) (fun _ => 0) hU
  rw [← hcd] at c2
  have cc : zcan p c := by rw [hcd]; exact zcofa_can hp ha _ _
  obtain ⟨pu, pw, ph, u0, w0, ef, eg, al⟩ := hU
  obtain ⟨m, hm⟩ : ∃ m : Nat, (m : Int) = ztop b := ⟨(ztop b).toNat, by omega⟩
  obtain ⟨b1, b2⟩ := zT_ed h (fun i j _ => hb _) hm
  obtain ⟨nu, u1, u2⟩ := kc_ed pu u0
  obtain ⟨nh, h1, h2⟩ := kc_ed ph (Classical.byContradiction fun z => by
    obtain ⟨x, y, _, hxy⟩ := b2
    apply hxy
    rw [eg]
    have cz : hh = fun _ _ => 0 := funext fun x => funext fun y => Classical.byContradiction fun q => z ⟨x, y, q⟩
    rw [cz]
    exact kc_zmul u x y)
  have ex := kc_exact h.F h1 u1 h2 u2
  rw [← eg] at ex
  have em : nh + nu = m := by
    have g0 : ∀ i j, nh + nu < i + j → zq φ b i j = 0 := by rw [eg]; exact kc_zero h1 u1
    exact kc_ed_u g0 ex b1 b2
  have tc : ztop c = nu := zT_eq h (fun i j _ => cc _) (by
    intro i j hij
    rw [c2]
    show c0 * u i j = 0
    rw [u1 i j hij, ka_mz]) (by
    obtain ⟨i, j, q1, q2⟩ := u2
    refine ⟨i, j, q1, ?_⟩
    rw [c2]
    intro z
    rcases h.F.dom _ _ z with q | q
    · exact c1 q
    · exact q2 q)
  obtain ⟨x, hx⟩ := h.F.2 c0 c1
  have hr : zq φ b = kc_mul (zq φ c) (fun i j => x * hh i j) := by
    rw [c2, kc_mul_c, kc_mul_comm u, kc_mul_c, ← eg]
    funext i j
    show _ = c0 * (x * zq φ b i j)
    rw [show c0 * (x * zq φ b i j) = (c0 * x) * zq φ b i j by grind, hx, ka_om]
  have eq := kquo h hp cc (by omega) (by omega) hr (fun i j hij => by
    show x * hh i j = 0
    rw [h1 i j (by omega), ka_mz])
  obtain ⟨q, hq⟩ : ∃ q, q = (zquo c b p).1 := ⟨_, rfl⟩
  rw [← hq] at eq
  have qc : zcan p q := by rw [hq]; exact zquo_can (by omega)
  have x0 : x ≠ 0 := fun z => h.F.1 (by rw [← hx, z, ka_mz])
  have tq : ztop q = nh := zT_eq h (fun i j _ => qc _) (by
    intro i j hij
    rw [eq]
    show x * hh i j = 0
    rw [h1 i j hij, ka_mz]) (by
    obtain ⟨i, j, q1, q2⟩ := h2
    refine ⟨i, j, q1, ?_⟩
    rw [eq]
    intro z
    rcases h.F.dom _ _ z with y | y
    · exact x0 y
    · exact q2 y)
  have en : zcmP a b p = znorm q p := by rw [hq, hcd]; rfl
  obtain ⟨⟨ν, n0, n1⟩, n2⟩ := knorm h hp qc (by omega)
  rw [en]
  refine ⟨⟨ν * x, fun z => ?_, ?_⟩, n2⟩
  · rcases h.F.dom _ _ z with y | y
    · exact n0 y
    · exact x0 y
  · rw [n1, eq]
    funext i j
    show ν * (x * hh i j) = ν * x * hh i j
    exact (ka_rg4 _ _ _).symm
end ZEh
