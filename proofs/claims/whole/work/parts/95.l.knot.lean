section ZHl
theorem zfor_front {σ : Type} {st : Int → σ → σ} {a : Int} {s : σ} : ∀ k : Nat, zfor st a s (k + 1) = zfor st (a + 1) (st a s) k
  | 0 => by
    show st (a + ((0 : Nat) : Int)) s = st a s
    rw [show a + ((0 : Nat) : Int) = a by omega]
  | k + 1 => by
    show st (a + ((k + 1 : Nat) : Int)) (zfor st a s (k + 1)) = st (a + 1 + (k : Int)) (zfor st (a + 1) (st a s) k)
    rw [zfor_front k, show a + ((k + 1 : Nat) : Int) = a + 1 + (k : Int) by omega]
/-- VALUE of a CURVE at the POINT -/
def zkv (M : zCt) (pt k : Int) : Int := zval (M.2.1 k.toNat) (zpx pt (M.1 0 3)) (zpy pt (M.1 0 3)) (zpz pt (M.1 0 3)) (M.1 0 3)
theorem zk_val {M : zCt} {S : zS2} (hB : zBs M S) (hX : zBx M) (hC : zCI M) {k pt : Int} (hk : 0 ≤ k ∧ k < M.1 0 4) (hq : zpt pt (M.1 0 3)) {U : zS2} (hU : zFm S U) : zm_valueAt U k pt = zkv M pt k := zB_val (zBs_q hB hC.cn.2 zVE.rf hU) hX hk hq.1
theorem zk_on {M : zCt} {S : zS2} (hB : zBs M S) (hX : zBx M) (hC : zCI M) {a b pt : Int} (ha : 0 ≤ a ∧ a < M.1 0 4) (hb : 0 ≤ b ∧ b < M.1 0 4) (hq : zpt pt (M.1 0 3)) {N : zCt} (hN : zVE N M) : ∃ w N', zc_areBothOn N a b pt = (w, N') ∧ zVE N' M ∧ (w = 0 ↔ ¬ (zkv M pt a = 0 ∧ zkv M pt b = 0)) := by
  obtain ⟨w, N', e1, e2, e3, e4, e5⟩ := zB_on hB hX hC ha hb hq hN zFm.rf
  refine ⟨w, N', e1, e2, ?_⟩
  rw [← e4]
  unfold zm_areOn
  simp only [zlet_v]
  rw [zk_val hB hX hC ha hq zFm.rf, zk_val hB hX hC hb hq zFm.rf]
  by_cases c1 : zkv M pt a = 0
  · rw [if_pos c1]
    by_cases c2 : zkv M pt b = 0
    · rw [if_pos c2]
      exact ⟨fun z => absurd z (by decide), fun z => absurd ⟨c1, c2⟩ z⟩
    · rw [if_neg c2]
      exact ⟨fun _ z => c2 z.2, fun _ => rfl⟩
  · rw [if_neg c1]
    exact ⟨fun _ z => c1 z.1, fun _ => rfl⟩
theorem zk_W58 (pt i : Int) (fu : Nat) (b : Int) (U : zS2) : zm_knot_W58 pt i fu (-2) b U = (-2, b, U) := by
  cases fu with
  | zero => rfl
  | succ n =>
    simp only [zm_knot_W58]
    split
    · rfl
    · rfl
/-- the couples of one CURVE that is ON it -/
theorem zk_in {M : zCt} {S : zS2} (hB : zBs M S) (hX : zBx M) (hC : zCI M) {a pt : Int} (ha : 0 ≤ a ∧ a < M.1 0 4) (hq : zpt pt (M.1 0 3)) (h0 : zkv M pt a = 0) : ∀ (m fu fu' : Nat) (s b : Int) (N : zCt) (U : zS2), b + m = M.1 0 4 → a < b → 0 ≤ s → m < fu → m < fu' → zVE N M → zFm S U → ∃ s' b' U', zm_knot_W58 pt a fu' s b U = (s', b', U') ∧ zFm S U' ∧ ((∃ N', zc_coupleTimes_W20 pt a fu s b N = .inl (-2, N') ∧ s' = -2 ∧ zVE N' M) ∨ ∃ b2 N', zc_coupleTimes_W20 pt a fu s b N = .inr (s', b2, N') ∧ 0 ≤ s' ∧ zVE N' M) := fun m => by
  have cn := hC.cn
  induction m with
  | zero =>
    intro fu fu' s b N U hb hab hs hf hf' hN hU
    obtain ⟨fu, rfl⟩ : ∃ k, fu = k + 1 := ⟨fu - 1, by omega⟩
    obtain ⟨fu', rfl⟩ : ∃ k, fu' = k + 1 := ⟨fu' - 1, by omega⟩
    refine ⟨s, b, U, ?_, hU, Or.inr ⟨b, N, ?_, hs, hN⟩⟩
    · simp only [zm_knot_W58]
      rw [if_pos (by rw [hU.n, hB.2.1]; omega)]
    · simp only [zc_coupleTimes_W20]
      rw [if_pos (by rw [hN.n]; omega)]
  | succ m ih =>
    intro fu fu' s b N U hb hab hs hf hf' hN hU
    obtain ⟨fu, rfl⟩ : ∃ k, fu = k + 1 := ⟨fu - 1, by omega⟩
    obtain ⟨fu', rfl⟩ : ∃ k, fu' = k + 1 := ⟨fu' - 1, by omega⟩
    have hbn : 0 ≤ b ∧ b < M.1 0 4 := ⟨by omega, by omega⟩
    obtain ⟨w, G, g1, g2, g3⟩ := zk_on hB hX hC ha hbn hq hN
    have ec : zc_coupleTimes_W20 pt a (fu + 1) s b N = (if w = 0 then zc_coupleTimes_W20 pt a fu s (b + 1) G else zlet (zc_timesAt (zw_common G (M.2.1 a.toNat) (M.2.1 b.toNat) (M.1 0 3)) a b pt) (fun q103 => (if q103.1 = -2 then .inl (-2, q103.2) else zc_coupleTimes_W20 pt a fu (s + q103.1) (b + 1) q103.2))) := by
      simp only [zc_coupleTimes_W20]
      rw [if_neg (by rw [hN.n]; omega), if_pos (by rw [hN.n]; omega), if_pos (by rw [hN.n]; omega), g1]
      simp only [zlet_v]
      rw [g2.p, g2.1]
    have em : zm_knot_W58 pt a (fu' + 1) s b U = (if zkv M pt b = 0 then zlet (zm_timesAt U a b pt) (fun q93 => (if q93.1 = -2 then zm_knot_W58 pt a fu' (-2) (b + 1) q93.2 else zm_knot_W58 pt a fu' (s + q93.1) (b + 1) q93.2)) else zm_knot_W58 pt a fu' s (b + 1) U) := by
      simp only [zm_knot_W58]
      rw [if_neg (by rw [hU.n, hB.2.1]; omega), if_neg (by omega), zk_val hB hX hC hbn hq hU]
      simp only [zlet_v]
    rw [ec, em]
    by_cases c : zkv M pt b = 0
    · have w0 : ¬ w = 0 := fun z => (g3.1 z) ⟨h0, c⟩
      rw [if_neg w0, if_pos c]
      obtain ⟨t, N', U', c1, c2, c3, c4, c5, c6⟩ := zB_timesAt hB hX hC ha hbn hq (N := zw_common G (M.2.1 a.toNat) (M.2.1 b.toNat) (M.1 0 3)) (zv_common.tr g2) zw_common24 hU
      rw [c1, c2]
      simp only [zlet_v]
      by_cases z : t = -2
      · rw [if_pos z, if_pos z, zk_W58]
        exact ⟨-2, b + 1, U', rfl, c5, Or.inl ⟨N', rfl, rfl, c3⟩⟩
      · rw [if_neg z, if_neg z]
        have t0 : 0 ≤ t := by
          rcases c6 with c6 | c6
          · exact absurd c6 z
          · exact c6.1
        exact ih fu fu' (s + t) (b + 1) N' U' (by omega) (by omega) (by omega) (by omega) (by omega) c3 c5
    · rw [if_pos (g3.2 (fun z => c z.2)), if_neg c]
      exact ih fu fu' s (b + 1) G U (by omega) (by omega) hs (by omega) (by omega) g2 hU
/-- the couples of one that is not -/
theorem zk_out {M : zCt} {S : zS2} (hB : zBs M S) (hX : zBx M) (hC : zCI M) {a pt : Int} (ha : 0 ≤ a ∧ a < M.1 0 4) (hq : zpt pt (M.1 0 3)) (h0 : ¬ zkv M pt a = 0) : ∀ (m fu : Nat) (s b : Int) (N : zCt), b + m = M.1 0 4 → a < b → m < fu → zVE N M → ∃ b2 N', zc_coupleTimes_W20 pt a fu s b N = .inr (s, b2, N') ∧ zVE N' M := fun m => by
  have cn := hC.cn
  induction m with
  | zero =>
    intro fu s b N hb hab hf hN
    obtain ⟨fu, rfl⟩ : ∃ k, fu = k + 1 := ⟨fu - 1, by omega⟩
    refine ⟨b, N, ?_, hN⟩
    simp only [zc_coupleTimes_W20]
    rw [if_pos (by rw [hN.n]; omega)]
  | succ m ih =>
    intro fu s b N hb hab hf hN
    obtain ⟨fu, rfl⟩ : ∃ k, fu = k + 1 := ⟨fu - 1, by omega⟩
    have hbn : 0 ≤ b ∧ b < M.1 0 4 := ⟨by omega, by omega⟩
    obtain ⟨w, G, g1, g2, g3⟩ := zk_on hB hX hC ha hbn hq hN
    have ec : zc_coupleTimes_W20 pt a (fu + 1) s b N = zc_coupleTimes_W20 pt a fu s (b + 1) G := by
      simp only [zc_coupleTimes_W20]
      rw [if_neg (by rw [hN.n]; omega), if_pos (by rw [hN.n]; omega), if_pos (by rw [hN.n]; omega), g1]
      simp only [zlet_v]
      rw [if_pos (g3.2 (fun z => h0 z.1))]
    rw [ec]
    exact ih fu s (b + 1) G (by omega) (by omega) (by omega) g2
/-- one CURVE in the model's loop -/
theorem zk_L27 {M : zCt} {S : zS2} (hB : zBs M S) (hX : zBx M) (hC : zCI M) {a pt : Int} (ha : 0 ≤ a ∧ a < M.1 0 4) (hq : zpt pt (M.1 0 3)) (c s : Int) {N : zCt} {U : zS2} (hs : 0 ≤ s ∨ s = -2) (hN : zVE N M) (hU : zFm S U) : ∃ s1 U1, zm_knot_L27 pt a (c, s, U) = (c + (if zkv M pt a = 0 then 1 else 0), s1, U1) ∧ zFm S U1 ∧ (0 ≤ s1 ∨ s1 = -2) ∧ (s = -2 → s1 = -2) ∧ (0 ≤ s → (∃ N', zc_coupleTimes_W20 pt a 8 s (a + 1) N = .inl (-2, N') ∧ s1 = -2 ∧ zVE N' M) ∨ ∃ b2 N', zc_coupleTimes_W20 pt a 8 s (a + 1) N = .inr (s1, b2, N') ∧ 0 ≤ s1 ∧ zVE N' M) := by
  have cn := hC.cn
  unfold zm_knot_L27
  dsimp only
  rw [zk_val hB hX hC ha hq hU, zlet_v]
  by_cases c0 : zkv M pt a = 0
  · rw [if_pos c0, if_pos c0]
    rcases hs with hs | hs
    · obtain ⟨s', b', U', e1, e2, e3⟩ := zk_in hB hX hC ha hq c0 (M.1 0 4 - (a + 1)).toNat 8 7 s (a + 1) N U (by omega) (by omega) hs (by omega) (by omega) hN hU
      rw [e1]
      refine ⟨s', U', rfl, e2, ?_, fun z => by omega, fun _ => e3⟩
      rcases e3 with ⟨_, _, z, _⟩ | ⟨_, _, _, z, _⟩
      · exact Or.inr z
      · exact Or.inl z
    · rw [hs, zk_W58]
      exact ⟨-2, U, rfl, hU, Or.inr rfl, fun _ => rfl, fun z => by omega⟩
  · rw [if_neg c0, if_neg c0, Int.add_zero]
    refine ⟨s, U, rfl, hU, hs, fun z => z, fun h0 => ?_⟩
    obtain ⟨b2, N', e1, e2⟩ := zk_out hB hX hC ha hq c0 (M.1 0 4 - (a + 1)).toNat 8 s (a + 1) N (by omega) (by omega) (by omega) hN
    exact Or.inr ⟨b2, N', e1, h0, e2⟩
/-- how many, both -/
theorem zk_cnt {M : zCt} {S : zS2} (hB : zBs M S) (hX : zBx M) (hC : zCI M) {pt : Int} (hq : zpt pt (M.1 0 3)) : ∀ (m fu : Nat) (a c s : Int) (N : zCt) (U : zS2), a + m = M.1 0 4 → 0 ≤ a → m < fu → (0 ≤ s ∨ s = -2) → zVE N M → zFm S U → ∃ r k' N', zc_countOn_W4 pt fu c a N = (r, k', N') ∧ zVE N' M ∧ (zfor (zm_knot_L27 pt) a (c, s, U) m).1 = r ∧ zFm S (zfor (zm_knot_L27 pt) a (c, s, U) m).2.2 := fun m => by
  have cn := hC.cn
  induction m with
  | zero =>
    intro fu a c s N U ha h0 hf hs hN hU
    obtain ⟨fu, rfl⟩ : ∃ k, fu = k + 1 := ⟨fu - 1, by omega⟩
    refine ⟨c, a, N, ?_, hN, rfl, hU⟩
    simp only [zc_countOn_W4]
    rw [if_pos (by rw [hN.n]; omega)]
  | succ m ih =>
    intro fu a c s N U ha h0 hf hs hN hU
    obtain ⟨fu, rfl⟩ : ∃ k, fu = k + 1 := ⟨fu - 1, by omega⟩
    have han : 0 ≤ a ∧ a < M.1 0 4 := ⟨h0, by omega⟩
    obtain ⟨s1, U1, e1, e2, e3, _⟩ := zk_L27 hB hX hC han hq c s hs hN hU
    have hq2 : zpt pt (N.1 0 3) := by rw [hN.p]; exact hq
    obtain ⟨⟨g1, g2, g3⟩, _⟩ := zgo_rng (M := N) (n := pt) (p := N.1 0 3) (by rw [hN.p]; exact hC.p) (by rw [bI_t hq2]; decide)
    have ev : zc_value N a pt = (zkv M pt a, zw_go N pt (N.1 0 3)) := by
      unfold zc_value
      rw [if_pos (by rw [hN.n]; omega), bI_t hq2]
      simp only [zlet_v]
      rw [if_neg (by decide), g1, g2, g3, (zv_go.tr hN).1, (zv_go.tr hN).p, hN.p]
      rfl
    have ec : zc_countOn_W4 pt (fu + 1) c a N = zc_countOn_W4 pt fu (c + (if zkv M pt a = 0 then 1 else 0)) (a + 1) (zw_go N pt (N.1 0 3)) := by
      simp only [zc_countOn_W4]
      rw [if_neg (by rw [hN.n]; omega), ev]
      simp only [zlet_v]
      by_cases z : zkv M pt a = 0
      · rw [if_pos z, if_pos z]
      · rw [if_neg z, if_neg z, Int.add_zero]
    rw [ec, zfor_front, e1]
    exact ih fu (a + 1) _ s1 _ U1 (by omega) (by omega) (by omega) e3 (zv_go.tr hN) e2
/-- TIMES of all couples, both -/
theorem zk_all {M : zCt} {S : zS2} (hB : zBs M S) (hX : zBx M) (hC : zCI M) {pt : Int} (hq : zpt pt (M.1 0 3)) : ∀ (m fu : Nat) (a c s : Int) (N : zCt) (U : zS2), a + m = M.1 0 4 → 0 ≤ a → m < fu → (0 ≤ s ∨ s = -2) → zVE N M → zFm S U → zFm S (zfor (zm_knot_L27 pt) a (c, s, U) m).2.2 ∧ (s = -2 → (zfor (zm_knot_L27 pt) a (c, s, U) m).2.1 = -2) ∧ (0 ≤ s → (∃ N', zc_coupleTimes_W4 pt fu s a N = .inl (-2, N') ∧ (zfor (zm_knot_L27 pt) a (c, s, U) m).2.1 = -2 ∧ zVE N' M) ∨ ∃ s' a' N', zc_coupleTimes_W4 pt fu s a N = .inr (s', a', N') ∧ (zfor (zm_knot_L27 pt) a (c, s, U) m).2.1 = s' ∧ zVE N' M) := fun m => by
  have cn := hC.cn
  induction m with
  | zero =>
    intro fu a c s N U ha h0 hf hs hN hU
    obtain ⟨fu, rfl⟩ : ∃ k, fu = k + 1 := ⟨fu - 1, by omega⟩
    refine ⟨hU, fun z => z, fun _ => Or.inr ⟨s, a, N, ?_, rfl, hN⟩⟩
    simp only [zc_coupleTimes_W4]
    rw [if_pos (by rw [hN.n]; omega)]
  | succ m ih =>
    intro fu a c s N U ha h0 hf hs hN hU
    obtain ⟨fu, rfl⟩ : ∃ k, fu = k + 1 := ⟨fu - 1, by omega⟩
    have han : 0 ≤ a ∧ a < M.1 0 4 := ⟨h0, by omega⟩
    obtain ⟨s1, U1, e1, e2, e3, e4, e5⟩ := zk_L27 hB hX hC han hq c s hs hN hU
    rw [zfor_front, e1]
    refine ⟨(ih fu (a + 1) _ s1 N U1 (by omega) (by omega) (by omega) e3 hN e2).1, fun z => (ih fu (a + 1) _ s1 N U1 (by omega) (by omega) (by omega) e3 hN e2).2.1 (e4 z), fun z => ?_⟩
    rcases e5 z with ⟨N', c1, c2, c3⟩ | ⟨b2, N', c1, c2, c3⟩
    · refine Or.inl ⟨N', ?_, (ih fu (a + 1) _ s1 N U1 (by omega) (by omega) (by omega) e3 hN e2).2.1 c2, c3⟩
      simp only [zc_coupleTimes_W4]
      rw [if_neg (by rw [hN.n]; omega), c1]
      rfl
    · have r := (ih fu (a + 1) (c + (if zkv M pt a = 0 then 1 else 0)) s1 N' U1 (by omega) (by omega) (by omega) e3 c3 e2).2.2 c2
      have ec : zc_coupleTimes_W4 pt (fu + 1) s a N = zc_coupleTimes_W4 pt fu s1 (a + 1) N' := by
        simp only [zc_coupleTimes_W4]
        rw [if_neg (by rw [hN.n]; omega), c1]
        rfl
      rw [ec]
      exact r
theorem zfact_26 (L : Nat) : zlK_26 zBm L := by
  intro i M S pt what _ _ hR hC hI _ _
  have hB := hR.1.2.2.1
  have cn := hC.cn
  have no : ∀ c : Int × zCt, ∀ m : Int × zS2, c = (-1, M) → m = (-1, S) → c.1 = m.1 ∧ zBm (i + 8) c.2 m.2 := fun c m e1 e2 => by
    rw [e1, e2]
    exact ⟨rfl, zBm_q hR hC zVE.rf zFm.rf⟩
  by_cases t : 0 ≤ what ∧ what ≤ 1
  · by_cases hq : zpt pt (M.1 0 3)
    · have em : zm_knot S pt what = (if what = 0 then ((zfor (zm_knot_L27 pt) 0 (0, 0, S) (M.1 0 4).toNat).1, (zfor (zm_knot_L27 pt) 0 (0, 0, S) (M.1 0 4).toNat).2.2) else ((zfor (zm_knot_L27 pt) 0 (0, 0, S) (M.1 0 4).toNat).2.1, (zfor (zm_knot_L27 pt) 0 (0, 0, S) (M.1 0 4).toNat).2.2)) := by
        unfold zm_knot
        rw [zB_isPoint hB.1, bI_t hq, zB_isIn, if_pos t, hB.2.1, show (M.1 0 4 - 1 + 1 - 0).toNat = (M.1 0 4).toNat by omega]
        simp only [zlet_v]
        rw [if_neg (by decide), if_neg (by decide)]
      have ec : zc_knot M pt what = (if what = 0 then zc_countOn M pt else zc_coupleTimes M pt) := by
        unfold zc_knot
        rw [if_neg (by omega), if_neg (by omega), bI_t hq]
        simp only [zlet_v]
        rw [if_neg (by decide)]
      rw [ec, em]
      by_cases w : what = 0
      · rw [if_pos w, if_pos w]
        obtain ⟨r, k', N', e1, e2, e3, e4⟩ := zk_cnt hB hR.2 hC hq (M.1 0 4).toNat 8 0 0 0 M S (by omega) (Int.le_refl _) (by omega) (Or.inl (Int.le_refl _)) zVE.rf zFm.rf
        unfold zc_countOn
        rw [e1, e3]
        exact ⟨rfl, zBm_q hR hC e2 e4⟩
      · rw [if_neg w, if_neg w]
        obtain ⟨f1, _, f3⟩ := zk_all hB hR.2 hC hq (M.1 0 4).toNat 8 0 0 0 M S (by omega) (Int.le_refl _) (by omega) (Or.inl (Int.le_refl _)) zVE.rf zFm.rf
        unfold zc_coupleTimes
        rcases f3 (Int.le_refl _) with ⟨N', e1, e2, e3⟩ | ⟨s', a', N', e1, e2, e3⟩
        · rw [e1, e2]
          exact ⟨rfl, zBm_q hR hC e3 f1⟩
        · rw [e1, e2]
          exact ⟨rfl, zBm_q hR hC e3 f1⟩
    · refine no _ _ ?_ ?_
      · unfold zc_knot
        rw [if_neg (by omega), if_neg (by omega), bI_f hq, zlet_v, if_pos rfl]
      · unfold zm_knot
        rw [zB_isPoint hB.1, bI_f hq, zlet_v, if_pos rfl]
  · refine no _ _ ?_ ?_
    · unfold zc_knot
      by_cases q : what < 0
      · rw [if_pos q]
      · rw [if_neg q, if_pos (by omega)]
    · unfold zm_knot
      rw [zB_isPoint hB.1, zB_isIn, if_neg t]
      by_cases hq : zpt pt (M.1 0 3)
      · rw [bI_t hq, zlet_v, if_neg (by decide), zlet_v, if_pos rfl]
      · rw [bI_f hq, zlet_v, if_pos rfl]
end ZHl
