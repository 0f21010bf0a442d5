section ZMi
theorem zlet_v {α β : Type} (v : α) (k : α → β) : zlet v k = k v := rfl
theorem zw_look1_o {M : zCt} {d : Nat → Int} {p : Int} {k i : Nat} (h : k ≠ 20) (h2 : ¬ (k = 0 ∧ i = 13)) : (zw_look1 M d p).1 k i = M.1 k i := by
  show zset (za M.1 0 13 p) 20 (zlook d p (M.1 0 10) (M.1 0 11) (M.1 0 12)) k i = _
  rw [zset_ne _ _ h, za_ne h2]
theorem zw_look1_13 {M : zCt} {d : Nat → Int} {p : Int} : (zw_look1 M d p).1 0 13 = p := by
  show zset (za M.1 0 13 p) 20 (zlook d p (M.1 0 10) (M.1 0 11) (M.1 0 12)) 0 13 = _
  rw [zset_ne _ _ (by decide), za_same]
theorem zc_look {M : zCt} (hC : zCI M) {cv pt : Int} (hc : 0 ≤ cv ∧ cv < M.1 0 4) (hpt : zpt pt (M.1 0 3)) : ∃ N, zc_lookAt M cv pt = (1, N) ∧ zVE N M ∧ zCI N ∧ N.1 20 = zLk M cv pt ∧ N.1 0 13 = M.1 0 3 ∧ N.1 0 10 = zpx pt (M.1 0 3) ∧ N.1 0 11 = zpy pt (M.1 0 3) ∧ N.1 0 12 = zpz pt (M.1 0 3) := by
  have hp := hC.p
  obtain ⟨⟨g1, g2, g3⟩, _⟩ := zgo_rng (M := M) hp (n := pt) (by rw [bI_t hpt]; decide)
  have e3 : (zw_go M pt (M.1 0 3)).1 0 3 = M.1 0 3 := zv_go.p
  refine ⟨zw_look1 (zw_go M pt (M.1 0 3)) (M.2.1 cv.toNat) (M.1 0 3), ?_, zv_look1.tr zv_go, zi_look1 (zi_go hC) hp, ?_, ?_, ?_, ?_, ?_⟩
  · unfold zc_lookAt
    rw [if_pos ((zc_find hC).2 hc), bI_t hpt]
    show (1, zw_look1 (zw_go M pt (M.1 0 3)) (M.2.1 cv.toNat) ((zw_go M pt (M.1 0 3)).1 0 3)) = _
    rw [e3]
  · show zset (za (zw_go M pt (M.1 0 3)).1 0 13 (M.1 0 3)) 20 (zlook (M.2.1 cv.toNat) (M.1 0 3) ((zw_go M pt (M.1 0 3)).1 0 10) ((zw_go M pt (M.1 0 3)).1 0 11) ((zw_go M pt (M.1 0 3)).1 0 12)) 20 = _
    rw [zset_self, g1, g2, g3]
    rfl
  · exact zw_look1_13
  · rw [zw_look1_o (by decide) (by decide), g1]
  · rw [zw_look1_o (by decide) (by decide), g2]
  · rw [zw_look1_o (by decide) (by decide), g3]
theorem zc_look0 {M : zCt} (hC : zCI M) {cv pt : Int} (h : ¬ ((0 ≤ cv ∧ cv < M.1 0 4) ∧ zpt pt (M.1 0 3))) : ∃ N, zc_lookAt M cv pt = (0, N) ∧ zVE N M ∧ zCI N := by
  unfold zc_lookAt
  by_cases h1 : 0 ≤ cv ∧ cv < M.1 0 4
  · rw [if_pos ((zc_find hC).2 h1), bI_f (fun q => h ⟨h1, q⟩)]
    exact ⟨_, rfl, zv_go, zi_go hC⟩
  · rw [if_neg (fun q => h1 ((zc_find hC).1 q))]
    exact ⟨_, rfl, zVE.rf, hC⟩
theorem zm_asked {M : zCt} {S : zS2} (hB : zBs M S) {cv pt : Int} : zm_isCurve S cv = bI (0 ≤ cv ∧ cv < M.1 0 4) ∧ zm_isPoint S pt = bI (zpt pt (M.1 0 3)) := by
  refine ⟨?_, zB_isPoint hB.1⟩
  rw [zB_isCurve, hB.2.1]
  by_cases h : 0 ≤ cv ∧ cv < M.1 0 4
  · rw [if_pos h, bI_t h]
  · rw [if_neg h, bI_f h]
theorem zfact_10 (L : Nat) : zlK_10 zBm L := by
  intro i M S a1 a2 _ _ hR hC hI _ _
  have hB := hR.1.2.2.1
  obtain ⟨e1, e2⟩ := zm_asked hB (cv := a1) (pt := a2)
  by_cases h : (0 ≤ a1 ∧ a1 < M.1 0 4) ∧ zpt a2 (M.1 0 3)
  · obtain ⟨N, c1, c2, c3, c4, _⟩ := zc_look hC h.1 h.2
    obtain ⟨o1, o2, o3, o4⟩ := zB_order hB hR.2 hC h.1 h.2
    have ec : zc_order M a1 a2 = (zleast (zLk M a1 a2), N) := by
      unfold zc_order
      rw [c1]
      show (zleast (N.1 20), N) = _
      rw [c4]
    have em : zm_order S a1 a2 = zm_orderAt S a1 a2 := by
      unfold zm_order
      rw [e1, bI_t h.1]
      rw [zlet_v, if_neg (by decide), e2, bI_t h.2]
      rfl
    rw [ec, em]
    exact ⟨o2.symm, zBm_q hR hC c2 o1⟩
  · obtain ⟨N, c1, c2, c3⟩ := zc_look0 hC h
    have ec : zc_order M a1 a2 = (-1, N) := by
      unfold zc_order
      rw [c1]
      rfl
    have em : zm_order S a1 a2 = (-1, S) := by
      unfold zm_order
      rw [e1]
      by_cases h1 : 0 ≤ a1 ∧ a1 < M.1 0 4
      · rw [bI_t h1]
        rw [zlet_v, if_neg (by decide), e2, bI_f (fun q => h ⟨h1, q⟩)]
        rfl
      · rw [bI_f h1]; rfl
    rw [ec, em]
    exact ⟨rfl, zBm_q hR hC c2 zFm.rf⟩
theorem zfact_11 (L : Nat) : zlK_11 zBm L := by
  intro i M S a1 a2 a3 a4 _ _ hR hC hI _ _ _ _
  have hB := hR.1.2.2.1
  obtain ⟨e1, e2⟩ := zm_asked hB (cv := a1) (pt := a2)
  by_cases h : (0 ≤ a1 ∧ a1 < M.1 0 4) ∧ zpt a2 (M.1 0 3)
  · obtain ⟨N, c1, c2, c3, c4, _⟩ := zc_look hC h.1 h.2
    have em : zm_local S a1 a2 a3 a4 = zlet (zm_isTerm a3 a4) (fun z19 => (if z19 = 0 then (-1, S) else (zm_cell (zm_laysLocal S 141 a1 a2) 141 a3 a4, zm_laysLocal S 141 a1 a2))) := by
      unfold zm_local
      rw [e1, bI_t h.1]
      rw [zlet_v, if_neg (by decide), e2, bI_t h.2]
      rfl
    have ec : zc_local M a1 a2 a3 a4 = zlet (bI (zfits a3 a4)) (fun z12 => (if z12 = 0 then (-1, N) else (zat (N.1 20) a3 a4, N))) := by
      unfold zc_local
      rw [c1]
      rfl
    rw [ec, em, zB_isTerm]
    by_cases hf : zfits a3 a4
    · rw [bI_t hf]
      obtain ⟨A, B, hA, hB2, hAB⟩ : ∃ A B : Nat, a3 = A ∧ a4 = B ∧ A + B ≤ 4 := by
        unfold zfits at hf
        exact ⟨a3.toNat, a4.toNat, by omega, by omega, by omega⟩
      obtain ⟨l1, l2⟩ := zB_lays hB hR.2 hC.cn.2 h.1 h.2 hAB
      refine ⟨?_, zBm_q hR hC c2 l1⟩
      show zat (N.1 20) a3 a4 = zm_cell (zm_laysLocal S 141 a1 a2) 141 a3 a4
      have e3 := zM_cell (U := zm_laysLocal S 141 a1 a2) (g := 141) (i := A) (j := B)
      rw [c4, hA, hB2, zatN hAB]
      exact (e3.trans l2).symm
    · rw [bI_f hf]
      exact ⟨rfl, zBm_q hR hC c2 zFm.rf⟩
  · obtain ⟨N, c1, c2, c3⟩ := zc_look0 hC h
    have ec : zc_local M a1 a2 a3 a4 = (-1, N) := by
      unfold zc_local
      rw [c1]
      rfl
    have em : zm_local S a1 a2 a3 a4 = (-1, S) := by
      unfold zm_local
      rw [e1]
      by_cases h1 : 0 ≤ a1 ∧ a1 < M.1 0 4
      · rw [bI_t h1]
        rw [zlet_v, if_neg (by decide), e2, bI_f (fun q => h ⟨h1, q⟩)]
        rfl
      · rw [bI_f h1]; rfl
    rw [ec, em]
    exact ⟨rfl, zBm_q hR hC c2 zFm.rf⟩
end ZMi
section ZMj
theorem zval_least {M : zCt} {S : zS2} (hB : zBs M S) (hX : zBx M) (hC : zCI M) {cv pt : Int} (hc : 0 ≤ cv ∧ cv < M.1 0 4) (hpt : zpt pt (M.1 0 3)) : zval (M.2.1 cv.toNat) (zpx pt (M.1 0 3)) (zpy pt (M.1 0 3)) (zpz pt (M.1 0 3)) (M.1 0 3) = 0 ↔ 1 ≤ zleast (zLk M cv pt) := by
  have t := (hB.2.2 cv.toNat (by omega)).2.2
  rw [zLk_0 hX (by omega)]
  obtain ⟨_, _, _, ⟨i, j, a1, a2, a3⟩, b⟩ := zB_order hB hX hC hc hpt
  constructor
  · intro e
    refine Classical.byContradiction fun q => ?_
    obtain ⟨rfl, rfl⟩ : i = 0 ∧ j = 0 := by omega
    exact a3 e
  · intro e
    refine Classical.byContradiction fun q => ?_
    have := b 0 0 (by omega) q
    omega
/-- the two further kinds of POINTS -/
theorem zc_trait {M N : zCt} {S : zS2} (hB : zBs M S) (hX : zBx M) (hC : zCI M) (hM : zVE N M) {cv q : Int} (hc : 0 ≤ cv ∧ cv < M.1 0 4) (hq : zpt q (M.1 0 3)) (tr : Int) (h0 : tr ≠ 0) : ∃ N', zVE N' M ∧ (1 ≤ zleast (zLk M cv q) → N'.1 20 = zLk M cv q) ∧ zc_hasTrait N cv q tr = (if tr = 1 then (if 2 ≤ zleast (zLk M cv q) then 1 else 0) else (if zbend (zLk M cv q) (M.1 0 3) = -2 ∨ 3 ≤ zbend (zLk M cv q) (M.1 0 3) then 1 else 0), N') := by
  have hp := hC.p
  have hv := zval_least hB hX hC hc hq
  have hq2 : zpt q (N.1 0 3) := by rw [hM.p]; exact hq
  obtain ⟨⟨g1, g2, g3⟩, _⟩ := zgo_rng (M := N) (p := N.1 0 3) (by rw [hM.p]; exact hp) (n := q) (by rw [bI_t hq2]; decide)
  have e2 : N.2.1 = M.2.1 := by rw [hM.1]
  have e3 : (zw_go N q (N.1 0 3)).1 0 3 = M.1 0 3 := zv_go.p.trans hM.p
  have n1 : zVE (zw_go N q (N.1 0 3)) M := zv_go.tr hM
  have n2 : zVE (zw_look1 (zw_go N q (N.1 0 3)) (N.2.1 cv.toNat) (M.1 0 3)) M := zv_look1.tr n1
  have l20 : (zw_look1 (zw_go N q (N.1 0 3)) (N.2.1 cv.toNat) (M.1 0 3)).1 20 = zLk M cv q := by
    show zset (za (zw_go N q (N.1 0 3)).1 0 13 (M.1 0 3)) 20 (zlook (N.2.1 cv.toNat) (M.1 0 3) ((zw_go N q (N.1 0 3)).1 0 10) ((zw_go N q (N.1 0 3)).1 0 11) ((zw_go N q (N.1 0 3)).1 0 12)) 20 = _
    rw [zset_self, g1, g2, g3, e2, hM.p]
    rfl
  have l13 : (zw_look1 (zw_go N q (N.1 0 3)) (N.2.1 cv.toNat) (M.1 0 3)).1 0 13 = M.1 0 3 := zw_look1_13
  have ec : zc_hasTrait N cv q tr = if 1 ≤ zleast (zLk M cv q) then (if tr = 1 then (if zleast (zLk M cv q) < 2 then (0, zw_look1 (zw_go N q (N.1 0 3)) (N.2.1 cv.toNat) (M.1 0 3)) else (1, zw_look1 (zw_go N q (N.1 0 3)) (N.2.1 cv.toNat) (M.1 0 3))) else (if zbend (zLk M cv q) (M.1 0 3) = -2 then (1, zw_look1 (zw_go N q (N.1 0 3)) (N.2.1 cv.toNat) (M.1 0 3)) else (if zbend (zLk M cv q) (M.1 0 3) < 3 then (0, zw_look1 (zw_go N q (N.1 0 3)) (N.2.1 cv.toNat) (M.1 0 3)) else (1, zw_look1 (zw_go N q (N.1 0 3)) (N.2.1 cv.toNat) (M.1 0 3))))) else (0, zw_go N q (N.1 0 3)) := by
    unfold zc_hasTrait
    rw [bI_t hq2]
    show (if zval (N.2.1 cv.toNat) ((zw_go N q (N.1 0 3)).1 0 10) ((zw_go N q (N.1 0 3)).1 0 11) ((zw_go N q (N.1 0 3)).1 0 12) ((zw_go N q (N.1 0 3)).1 0 3) = 0 then (if tr = 0 then _ else zlet (zw_look1 (zw_go N q (N.1 0 3)) (N.2.1 cv.toNat) ((zw_go N q (N.1 0 3)).1 0 3)) _) else (0, zw_go N q (N.1 0 3))) = _
    rw [g1, g2, g3, e3, e2, hM.p, if_neg h0]
    rw [hM.p, e2] at l20 l13
    by_cases v : 1 ≤ zleast (zLk M cv q)
    · rw [if_pos v, if_pos (hv.2 v)]
      show (if tr = 1 then (if zleast ((zw_look1 (zw_go N q (M.1 0 3)) (M.2.1 cv.toNat) (M.1 0 3)).1 20) < 2 then _ else _) else (if zbend ((zw_look1 (zw_go N q (M.1 0 3)) (M.2.1 cv.toNat) (M.1 0 3)).1 20) ((zw_look1 (zw_go N q (M.1 0 3)) (M.2.1 cv.toNat) (M.1 0 3)).1 0 13) = -2 then _ else (if zbend ((zw_look1 (zw_go N q (M.1 0 3)) (M.2.1 cv.toNat) (M.1 0 3)).1 20) ((zw_look1 (zw_go N q (M.1 0 3)) (M.2.1 cv.toNat) (M.1 0 3)).1 0 13) < 3 then _ else _))) = _
      rw [l20, l13]
    · rw [if_neg v, if_neg (fun z => v (hv.1 z))]
  rw [ec]
  by_cases v : 1 ≤ zleast (zLk M cv q)
  · refine ⟨zw_look1 (zw_go N q (N.1 0 3)) (N.2.1 cv.toNat) (M.1 0 3), n2, fun _ => l20, ?_⟩
    rw [if_pos v]
    by_cases t1 : tr = 1
    · rw [if_pos t1, if_pos t1]
      by_cases s : zleast (zLk M cv q) < 2
      · rw [if_pos s, if_neg (by omega)]
      · rw [if_neg s, if_pos (by omega)]
    · rw [if_neg t1, if_neg t1]
      by_cases s : zbend (zLk M cv q) (M.1 0 3) = -2
      · rw [if_pos s, if_pos (Or.inl s)]
      · rw [if_neg s]
        by_cases s2 : zbend (zLk M cv q) (M.1 0 3) < 3
        · rw [if_pos s2, if_neg (by omega)]
        · rw [if_neg s2, if_pos (by omega)]
  · refine ⟨zw_go N q (N.1 0 3), n1, fun z => absurd z v, ?_⟩
    rw [if_neg v]
    have hb : zbend (zLk M cv q) (M.1 0 3) = -1 := by
      unfold zbend
      rw [if_neg (by omega)]
    by_cases t1 : tr = 1
    · rw [if_pos t1, if_neg (by omega)]
    · rw [if_neg t1, if_neg (by rw [hb]; omega)]
/-- two loops that look for the k-th POINT -/
theorem zc_pair {M : zCt} {S : zS2} {cv k tr : Int} {T : Int → Prop} (dT : ∀ q, Decidable (T q)) (hT : ∀ N q, zVE N M → zpt q (M.1 0 3) → ∃ N', zVE N' M ∧ zc_hasTrait N cv q tr = (if T q then 1 else 0, N')) {W : Nat → Int → Int → zS2 → (Int × zS2) ⊕ (Int × Int × zS2)} (hW0 : ∀ n q U, W 0 n q U = .inr (n, q, U)) (hW : ∀ fu n q U, zFm S U → 0 ≤ q → ∃ U', zFm S U' ∧ W (fu + 1) n q U = (if zmany (M.1 0 3) ≤ q then .inr (n, q, U) else if T q then (if n = k then .inl (q, U') else W fu (n + 1) (q + 1) U') else W fu n (q + 1) U')) : ∀ (fu : Nat) (n q : Int) (N : zCt) (U : zS2), zVE N M → zFm S U → 0 ≤ q →
    (∃ r N' U', zc_choose_W40 cv k tr (zmany (M.1 0 3)) fu n q N = .inl (r, N') ∧ W fu n q U = .inl (r, U') ∧ zVE N' M ∧ zFm S U') ∨ ∃ n' q' N' U', zc_choose_W40 cv k tr (zmany (M.1 0 3)) fu n q N = .inr (n', q', N') ∧ W fu n q U = .inr (n', q', U') ∧ zVE N' M ∧ zFm S U'
  | 0, n, q, N, U, hN, hU, _ => Or.inr ⟨n, q, N, U, rfl, hW0 n q U, hN, hU⟩
  | fu + 1, n, q, N, U, hN, hU, hq => by
    obtain ⟨U', u1, u2⟩ := hW fu n q U hU hq
    by_cases h1 : zmany (M.1 0 3) ≤ q
    · exact Or.inr ⟨n, q, N, U, by simp only [zc_choose_W40]; rw [if_pos h1], by rw [u2, if_pos h1], hN, hU⟩
    · obtain ⟨N', n1, n2⟩ := hT N q hN (zpt_many hq h1)
      have ec : zc_choose_W40 cv k tr (zmany (M.1 0 3)) (fu + 1) n q N = (if (zc_hasTrait N cv q tr).1 = 0 then zc_choose_W40 cv k tr (zmany (M.1 0 3)) fu n (q + 1) (zc_hasTrait N cv q tr).2 else (if n = k then .inl (q, (zc_hasTrait N cv q tr).2) else zc_choose_W40 cv k tr (zmany (M.1 0 3)) fu (n + 1) (q + 1) (zc_hasTrait N cv q tr).2)) := by
        simp only [zc_choose_W40]
        rw [if_neg h1]
        rfl
      rw [u2, if_neg h1, ec, n2]
      by_cases e : T q
      · rw [if_pos e, if_pos e, if_neg (show ¬ ((1 : Int), N').1 = 0 from by show ¬ (1 : Int) = 0; decide)]
        by_cases e2 : n = k
        · rw [if_pos e2, if_pos e2]
          exact Or.inl ⟨q, N', U', rfl, rfl, n1, u1⟩
        · rw [if_neg e2, if_neg e2]
          exact zc_pair dT hT hW0 hW fu (n + 1) (q + 1) _ _ n1 u1 (by omega)
      · rw [if_neg e, if_neg e, if_pos (show ((0 : Int), N').1 = 0 from rfl)]
        exact zc_pair dT hT hW0 hW fu n (q + 1) _ _ n1 u1 (by omega)
theorem zc_pick {i : Int} {M : zCt} {S : zS2} (hR : zBm i M S) (hC : zCI M) {cv k tr : Int} {T : Int → Prop} (dT : ∀ q, Decidable (T q)) (hc : 0 ≤ cv ∧ cv < M.1 0 4) (hT : ∀ N q, zVE N M → zpt q (M.1 0 3) → ∃ N', zVE N' M ∧ zc_hasTrait N cv q tr = (if T q then 1 else 0, N')) {W : Nat → Int → Int → zS2 → (Int × zS2) ⊕ (Int × Int × zS2)} (hW0 : ∀ n q U, W 0 n q U = .inr (n, q, U)) (hW : ∀ fu n q U, zFm S U → 0 ≤ q → ∃ U', zFm S U' ∧ W (fu + 1) n q U = (if zmany (M.1 0 3) ≤ q then .inr (n, q, U) else if T q then (if n = k then .inl (q, U') else W fu (n + 1) (q + 1) U') else W fu n (q + 1) U')) {R : Int × zS2} (eR : R = (if -1 ≤ k then zsum (W 995 0 0 S) (fun r20 => r20) (fun q20 => (fun (n20 : Int) (p20 : Int) (S20 : zS2) => (if k = -1 then (n20, S20) else (-1, S20))) q20.1 q20.2.1 q20.2.2) else (-1, S))) : (zc_choose M cv k tr).1 = R.1 ∧ zBm (i + 8) (zc_choose M cv k tr).2 R.2 := by
  rw [eR]
  by_cases hk : -1 ≤ k
  · rw [zc_choose_t hC hc hk, if_pos hk]
    rcases zc_pair dT hT hW0 hW 995 0 0 M S zVE.rf zFm.rf (by decide) with ⟨r, N, U, e1, e2, e3, e4⟩ | ⟨n, q, N, U, e1, e2, e3, e4⟩
    · rw [e1, e2]
      exact ⟨rfl, zBm_q hR hC e3 e4⟩
    · rw [e1, e2]
      show (if k = -1 then (n, N) else (-1, N)).1 = (if k = -1 then (n, U) else (-1, U)).1 ∧ zBm (i + 8) (if k = -1 then (n, N) else (-1, N)).2 (if k = -1 then (n, U) else (-1, U)).2
      by_cases e : k = -1
      · rw [if_pos e, if_pos e]; exact ⟨rfl, zBm_q hR hC e3 e4⟩
      · rw [if_neg e, if_neg e]; exact ⟨rfl, zBm_q hR hC e3 e4⟩
  · rw [zc_choose_f hC (fun q => hk q.2), if_neg hk]
    exact ⟨rfl, zBm_q hR hC zVE.rf zFm.rf⟩
theorem zfact_12 (L : Nat) : zlK_12 zBm L := by
  intro i M S a1 a2 _ _ hR hC hI _ _
  have hB := hR.1.2.2.1
  show (zc_choose M a1 a2 1).1 = (zm_singular S a1 a2).1 ∧ zBm (i + 8) (zc_choose M a1 a2 1).2 (zm_singular S a1 a2).2
  by_cases h : 0 ≤ a1 ∧ a1 < M.1 0 4
  · refine zc_pick hR hC (T := fun q => 2 ≤ zleast (zLk M a1 q)) (fun q => Int.decLe _ _) h (fun N q hN hq => ?_) (W := zm_singular_W20 a1 a2) (fun n q U => rfl) (fun fu n q U hU hq => ?_) ?_
    · obtain ⟨N', n1, _, n2⟩ := zc_trait hB hR.2 hC hN h hq 1 (by decide)
      exact ⟨N', n1, by rw [n2, if_pos rfl]⟩
    · have hBU := zBs_q hB hC.cn.2 zVE.rf hU
      by_cases h1 : zmany (M.1 0 3) ≤ q
      · refine ⟨U, hU, ?_⟩
        rw [if_pos h1]
        simp only [zm_singular_W20]
        show (if zm_points U ≤ q then _ else _) = _
        rw [zB_points hBU.1, if_pos h1]
      · obtain ⟨o1, o2, _, _⟩ := zB_order hBU hR.2 hC h (zpt_many hq h1)
        refine ⟨(zm_orderAt U a1 q).2, hU.tr o1, ?_⟩
        rw [if_neg h1]
        simp only [zm_singular_W20]
        show (if zm_points U ≤ q then _ else (if 2 ≤ (zm_orderAt U a1 q).1 then (if n = a2 then _ else zm_singular_W20 a1 a2 fu (n + 1) (q + 1) (zm_orderAt U a1 q).2) else zm_singular_W20 a1 a2 fu n (q + 1) (zm_orderAt U a1 q).2)) = _
        rw [zB_points hBU.1, if_neg h1, o2]
    · unfold zm_singular
      rw [zB_isCurve, hB.2.1, if_pos h]
      rfl
  · unfold zm_singular
    rw [zc_choose_f hC (fun q => h q.1), zB_isCurve, hB.2.1, if_neg h]
    exact ⟨rfl, zBm_q hR hC zVE.rf zFm.rf⟩
end ZMj
