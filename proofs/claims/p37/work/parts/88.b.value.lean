section ZMd
theorem ka_s_ext {K : Type} [Lean.Grind.CommRing K] {f : Nat → K} {m : Nat} : ∀ n, m ≤ n → (∀ i, m ≤ i → i < n → f i = 0) → ka_s f n = ka_s f m
  | 0, h, _ => by rw [show m = 0 by omega]
  | n + 1, h, h0 => by
    by_cases e : m = n + 1
    · rw [e]
    · show ka_s f n + f n = ka_s f m
      rw [ka_s_ext n (by omega) (fun i a b => h0 i a (by omega)), h0 n (by omega) (by omega)]; grind
theorem ka_0pow {K : Type} [Lean.Grind.CommRing K] {k : Nat} (h : k ≠ 0) : (0 : K) ^ k = 0 := by
  obtain ⟨m, rfl⟩ : ∃ m, k = m + 1 := ⟨k - 1, by omega⟩
  rw [Lean.Grind.Semiring.pow_succ]; grind
/-- VALUE as a sum -/
def zVS {K : Type} [Lean.Grind.CommRing K] (φ : Int → K) (c : Nat → Int) (x y z n : Int) : K := ka_s (fun i => ka_s (fun j => (if z = 1 ∨ (i : Int) + (j : Int) = n then φ (c (5 * i + j)) else 0) * φ y ^ j) (4 - i + 1) * φ x ^ i) (4 + 1)
theorem zK_val {K : Type} [Lean.Grind.CommRing K] {p : Int} {φ : Int → K} (h : zKp K p φ) (c : Nat → Int) (x y z : Int) : φ (zval c x y z p) = zVS φ c x y z (if z = 0 then ztop c else -1) := by
  unfold zval zVS
  obtain ⟨n, hn⟩ : ∃ n, n = (if z = 0 then ztop c else -1) := ⟨_, rfl⟩
  rw [← hn]
  refine zK_hor φ (step := zval_out c x y z n p) 4 h.z (fun i q hi => ?_)
  unfold zval_out
  rw [h.em, h.ad, h.ml]
  have e : φ (zforD (zval_in c y z n p (i : Int)) (4 - (i : Int)) 0 (4 - (i : Int) - (-1)).toNat) = ka_s (fun j => (if z = 1 ∨ (i : Int) + (j : Int) = n then φ (c (5 * i + j)) else 0) * φ y ^ j) (4 - i + 1) := by
    rw [show (4 - (i : Int) - (-1)).toNat = (4 - i) + 1 by omega, show (4 - (i : Int)) = ((4 - i : Nat) : Int) by omega]
    refine zK_hor φ (step := zval_in c y z n p (i : Int)) (4 - i) h.z (fun j q hj => ?_)
    unfold zval_in
    by_cases g : z = 1 ∨ (i : Int) + (j : Int) = n
    · rw [if_pos g, if_pos g, h.ad, h.em, h.ml, show ((i : Int) * 5 + (j : Int)).toNat = 5 * i + j by omega]
    · rw [if_neg g, if_neg g, h.em, h.ml]; grind
  rw [e]
/-- the same bond for whatever the tools hold -/
theorem zBs_q {M N : zCt} {S U : zS2} (h : zBs M S) (hn : M.1 0 4 ≤ 6) (hM : zVE N M) (hS : zFm S U) : zBs N U :=
  h.same hM.p hM.n (funext fun i => hM.2 3 i (by omega) (by omega)) (by rw [hM.1]) hS.p hS.n (fun i hi => hS.c (by omega)) (fun i _ => hS 5 i (by omega) (by omega) (by omega)) hn
theorem zc_find {M : zCt} (hC : zCI M) {cv : Int} : (0 ≤ cv ∧ cv < M.1 0 4 ∧ cv < 6) ↔ 0 ≤ cv ∧ cv < M.1 0 4 := by have := hC.cn; omega
end ZMd
section ZMe
/-- is a POINT ON a CURVE -/
theorem zc_trait0 {M N : zCt} (hC : zCI M) (hM : zVE N M) {cv q : Int} (hq : zpt q (M.1 0 3)) : zc_hasTrait N cv q 0 = (if zval (M.2.1 cv.toNat) (zpx q (M.1 0 3)) (zpy q (M.1 0 3)) (zpz q (M.1 0 3)) (M.1 0 3) = 0 then 1 else 0, zw_go N q (M.1 0 3)) := by
  have hp := hC.p
  have hq2 : zpt q (N.1 0 3) := by rw [hM.p]; exact hq
  obtain ⟨⟨g1, g2, g3⟩, _⟩ := zgo_rng (M := N) (p := N.1 0 3) (by rw [hM.p]; exact hp) (n := q) (by rw [bI_t hq2]; decide)
  have e2 : N.2.1 = M.2.1 := by rw [hM.1]
  unfold zc_hasTrait
  rw [bI_t hq2]
  show (if zval (N.2.1 cv.toNat) ((zw_go N q (N.1 0 3)).1 0 10) ((zw_go N q (N.1 0 3)).1 0 11) ((zw_go N q (N.1 0 3)).1 0 12) (N.1 0 3) = 0 then (1, zw_go N q (N.1 0 3)) else (0, zw_go N q (N.1 0 3))) = _
  rw [g1, g2, g3, e2, hM.p]
  split <;> rfl
theorem zpt_many {q p : Int} (h0 : 0 ≤ q) (h : ¬ zmany p ≤ q) : zpt q p := ⟨h0, by omega⟩
theorem zc_choose_t {M : zCt} (hC : zCI M) {cv k tr : Int} (hc : 0 ≤ cv ∧ cv < M.1 0 4) (hk : -1 ≤ k) : zc_choose M cv k tr = zsum (zc_choose_W40 cv k tr (zmany (M.1 0 3)) 995 0 0 M) (fun r40 => r40) (fun q40 => (fun (n40 : Int) (q40 : Int) (M40 : zCt) => (if k = -1 then (n40, M40) else (-1, M40))) q40.1 q40.2.1 q40.2.2) := by
  unfold zc_choose
  rw [if_pos ((zc_find hC).2 hc), if_pos hk]
  rfl
theorem zc_choose_f {M : zCt} (hC : zCI M) {cv k tr : Int} (h : ¬ ((0 ≤ cv ∧ cv < M.1 0 4) ∧ -1 ≤ k)) : zc_choose M cv k tr = (-1, M) := by
  unfold zc_choose
  by_cases hc : 0 ≤ cv ∧ cv < M.1 0 4
  · rw [if_pos ((zc_find hC).2 hc), if_neg (fun q => h ⟨hc, q⟩)]
  · rw [if_neg (fun q => hc ((zc_find hC).1 q))]
end ZMe
