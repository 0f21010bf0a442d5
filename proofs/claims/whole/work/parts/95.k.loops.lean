section ZHk
/-- ON both, both -/
theorem zB_on {M : zCt} {S : zS2} (hB : zBs M S) (hX : zBx M) (hC : zCI M) {a b q : Int} (ha : 0 ≤ a ∧ a < M.1 0 4) (hb : 0 ≤ b ∧ b < M.1 0 4) (hq : zpt q (M.1 0 3)) {N : zCt} (hN : zVE N M) {U : zS2} (hU : zFm S U) : ∃ w N', zc_areBothOn N a b q = (w, N') ∧ zVE N' M ∧ N'.1 24 = N.1 24 ∧ zm_areOn U a b q = w ∧ (w = 0 ∨ w = 1) := by
  have hp := hC.p
  have cn := hC.cn
  have hBU := zBs_q hB cn.2 zVE.rf hU
  have hq2 : zpt q (N.1 0 3) := by rw [hN.p]; exact hq
  obtain ⟨⟨g1, g2, g3⟩, _⟩ := zgo_rng (M := N) (n := q) (p := N.1 0 3) (by rw [hN.p]; exact hp) (by rw [bI_t hq2]; decide)
  obtain ⟨G, hG⟩ : ∃ G, G = zw_go N q (N.1 0 3) := ⟨_, rfl⟩
  rw [← hG] at g1 g2 g3
  rw [hN.p] at g1 g2 g3
  have vG : zVE G M := by rw [hG]; exact zv_go.tr hN
  have G24 : G.1 24 = N.1 24 := by
    rw [hG]
    unfold zw_go
    dsimp only
    rw [za_row (by decide), za_row (by decide), za_row (by decide)]
  have ec : zc_areBothOn N a b q = (if zval (M.2.1 a.toNat) (zpx q (M.1 0 3)) (zpy q (M.1 0 3)) (zpz q (M.1 0 3)) (M.1 0 3) = 0 then (if zval (M.2.1 b.toNat) (zpx q (M.1 0 3)) (zpy q (M.1 0 3)) (zpz q (M.1 0 3)) (M.1 0 3) = 0 then (1, G) else (0, G)) else (0, G)) := by
    unfold zc_areBothOn
    rw [bI_t hq2]
    simp only [zlet_v]
    rw [← hG, if_neg (by decide), g1, g2, g3, vG.p, vG.1]
  have em : zm_areOn U a b q = (if zval (M.2.1 a.toNat) (zpx q (M.1 0 3)) (zpy q (M.1 0 3)) (zpz q (M.1 0 3)) (M.1 0 3) = 0 then (if zval (M.2.1 b.toNat) (zpx q (M.1 0 3)) (zpy q (M.1 0 3)) (zpz q (M.1 0 3)) (M.1 0 3) = 0 then 1 else 0) else 0) := by
    unfold zm_areOn
    simp only [zlet_v]
    rw [zB_val hBU hX ha hq.1, zB_val hBU hX hb hq.1]
  rw [ec, em]
  by_cases c1 : zval (M.2.1 a.toNat) (zpx q (M.1 0 3)) (zpy q (M.1 0 3)) (zpz q (M.1 0 3)) (M.1 0 3) = 0
  · rw [if_pos c1, if_pos c1]
    by_cases c2 : zval (M.2.1 b.toNat) (zpx q (M.1 0 3)) (zpy q (M.1 0 3)) (zpz q (M.1 0 3)) (M.1 0 3) = 0
    · rw [if_pos c2, if_pos c2]
      exact ⟨1, G, rfl, vG, G24, rfl, Or.inr rfl⟩
    · rw [if_neg c2, if_neg c2]
      exact ⟨0, G, rfl, vG, G24, rfl, Or.inl rfl⟩
  · rw [if_neg c1, if_neg c1]
    exact ⟨0, G, rfl, vG, G24, rfl, Or.inl rfl⟩
/-- TIMES together, both -/
theorem zB_among {M : zCt} {S : zS2} (hB : zBs M S) (hX : zBx M) (hC : zCI M) {a b : Int} (ha : 0 ≤ a ∧ a < M.1 0 4) (hb : 0 ≤ b ∧ b < M.1 0 4) {to : Int} (hto : to ≤ zmany (M.1 0 3)) : ∀ (fu : Nat) (s q : Int) (N : zCt) (U : zS2), zVE N M → N.1 24 = zcmP (M.2.1 a.toNat) (M.2.1 b.toNat) (M.1 0 3) → zFm S U → 0 ≤ q → (∃ r N' U', zc_timesBetween_W6 a b to fu s q N = .inl (r, N') ∧ zm_timesAmong_W6 a b to fu s q U = .inl (r, U') ∧ zVE N' M ∧ zFm S U') ∨ ∃ s' q' N' U', zc_timesBetween_W6 a b to fu s q N = .inr (s', q', N') ∧ zm_timesAmong_W6 a b to fu s q U = .inr (s', q', U') ∧ zVE N' M ∧ zFm S U'
  | 0, s, q, N, U, hN, h24, hU, h0 => Or.inr ⟨s, q, N, U, rfl, rfl, hN, hU⟩
  | fu + 1, s, q, N, U, hN, h24, hU, h0 => by
    simp only [zc_timesBetween_W6, zm_timesAmong_W6]
    by_cases c : to ≤ q
    · rw [if_pos c, if_pos c]
      exact Or.inr ⟨s, q, N, U, rfl, rfl, hN, hU⟩
    · rw [if_neg c, if_neg c]
      have hq : zpt q (M.1 0 3) := ⟨h0, by omega⟩
      obtain ⟨w, G, e1, e2, e3, e4, e5⟩ := zB_on hB hX hC ha hb hq hN hU
      rw [e1, e4]
      simp only [zlet_v]
      by_cases z : w = 0
      · rw [if_pos z, if_pos z]
        exact zB_among hB hX hC ha hb hto fu s (q + 1) G U e2 (e3.trans h24) hU (by omega)
      · rw [if_neg z, if_neg z]
        obtain ⟨t, N', U', c1, c2, c3, c4, c5, c6⟩ := zB_timesAt hB hX hC ha hb hq e2 (e3.trans h24) hU
        rw [c1, c2]
        dsimp only
        by_cases z2 : t = -2
        · rw [if_pos z2, if_pos z2]
          exact Or.inl ⟨-2, N', U', rfl, rfl, c3, c5⟩
        · rw [if_neg z2, if_neg z2]
          exact zB_among hB hX hC ha hb hto fu (s + t) (q + 1) N' U' c3 c4 c5 (by omega)
theorem zB_between {M : zCt} {S : zS2} (hB : zBs M S) (hX : zBx M) (hC : zCI M) {a b : Int} (ha : 0 ≤ a ∧ a < M.1 0 4) (hb : 0 ≤ b ∧ b < M.1 0 4) {fr to : Int} (hto : to ≤ zmany (M.1 0 3)) (h0 : 0 ≤ fr) {N : zCt} {U : zS2} (hN : zVE N M) (h24 : N.1 24 = zcmP (M.2.1 a.toNat) (M.2.1 b.toNat) (M.1 0 3)) (hU : zFm S U) : ∃ t N' U', zc_timesBetween N a b fr to = (t, N') ∧ zm_timesAmong U a b fr to = (t, U') ∧ zVE N' M ∧ zFm S U' := by
  unfold zc_timesBetween zm_timesAmong
  rcases zB_among hB hX hC ha hb hto 995 0 fr N U hN h24 hU h0 with ⟨r, N', U', e1, e2, e3, e4⟩ | ⟨s', q', N', U', e1, e2, e3, e4⟩
  · rw [e1, e2]
    exact ⟨r, N', U', rfl, rfl, e3, e4⟩
  · rw [e1, e2]
    exact ⟨s', N', U', rfl, rfl, e3, e4⟩
/-- the k-th POINT on both, both -/
theorem zB_meetW {M : zCt} {S : zS2} (hB : zBs M S) (hX : zBx M) (hC : zCI M) {a b k what : Int} (ha : 0 ≤ a ∧ a < M.1 0 4) (hb : 0 ≤ b ∧ b < M.1 0 4) : ∀ (fu : Nat) (n q : Int) (N : zCt), zVE N M → N.1 24 = zcmP (M.2.1 a.toNat) (M.2.1 b.toNat) (M.1 0 3) → 0 ≤ q → (∃ r N' U', zc_meet_W116 a b k what (zmany (M.1 0 3)) fu n q N = .inl (r, N') ∧ zm_meet_W55 S a b k what fu n q = .inl (r, U') ∧ zVE N' M ∧ zFm S U') ∨ ∃ n' q' N', zc_meet_W116 a b k what (zmany (M.1 0 3)) fu n q N = .inr (n', q', N') ∧ zm_meet_W55 S a b k what fu n q = .inr (n', q') ∧ zVE N' M
  | 0, n, q, N, hN, h24, h0 => Or.inr ⟨n, q, N, rfl, rfl, hN⟩
  | fu + 1, n, q, N, hN, h24, h0 => by
    simp only [zc_meet_W116, zm_meet_W55]
    rw [zB_points hB.1]
    simp only [zlet_v]
    by_cases c : zmany (M.1 0 3) ≤ q
    · rw [if_pos c, if_pos c]
      exact Or.inr ⟨n, q, N, rfl, rfl, hN⟩
    · rw [if_neg c, if_neg c]
      have hq : zpt q (M.1 0 3) := ⟨h0, by omega⟩
      obtain ⟨w, G, e1, e2, e3, e4, e5⟩ := zB_on hB hX hC ha hb hq hN zFm.rf
      rw [e1, e4]
      dsimp only
      by_cases z : w = 0
      · rw [if_pos z, if_pos z]
        exact zB_meetW hB hX hC ha hb fu n (q + 1) G e2 (e3.trans h24) (by omega)
      · rw [if_neg z, if_neg z]
        by_cases y : n = k
        · rw [if_pos y, if_pos y]
          by_cases x : what = 0
          · rw [if_pos x, if_pos x]
            exact Or.inl ⟨q, G, S, rfl, rfl, e2, zFm.rf⟩
          · rw [if_neg x, if_neg x]
            obtain ⟨t, N', U', c1, c2, c3, c4, c5, c6⟩ := zB_timesAt hB hX hC ha hb hq e2 (e3.trans h24) zFm.rf
            rw [c1, c2]
            exact Or.inl ⟨t, N', U', rfl, rfl, c3, c5⟩
        · rw [if_neg y, if_neg y]
          exact zB_meetW hB hX hC ha hb fu (n + 1) (q + 1) G e2 (e3.trans h24) (by omega)
theorem zfact_23 (L : Nat) : zlK_23 zBm L := by
  intro i M S a b k what _ _ hR hC hI _ _ _ _
  have hB := hR.1.2.2.1
  have cn := hC.cn
  have ea := zm_areC (S := S) (a := a) (b := b)
  rw [hB.2.1] at ea
  have no : ∀ c : Int × zCt, ∀ m : Int × zS2, c = (-1, M) → m = (-1, S) → c.1 = m.1 ∧ zBm (i + 8) c.2 m.2 := fun c m e1 e2 => by
    rw [e1, e2]
    exact ⟨rfl, zBm_q hR hC zVE.rf zFm.rf⟩
  by_cases h : (0 ≤ a ∧ a < M.1 0 4) ∧ (0 ≤ b ∧ b < M.1 0 4)
  · by_cases t : (0 ≤ what ∧ what ≤ 1) ∧ -1 ≤ k
    · obtain ⟨G, hG⟩ : ∃ G, G = zw_common M (M.2.1 a.toNat) (M.2.1 b.toNat) (M.1 0 3) := ⟨_, rfl⟩
      have vG : zVE G M := by rw [hG]; exact zv_common
      have G24 : G.1 24 = zcmP (M.2.1 a.toNat) (M.2.1 b.toNat) (M.1 0 3) := by rw [hG]; exact zw_common24
      have ec : zc_meet M a b k what = (if k = -1 then (if what = 1 then zc_timesBetween G a b 0 (zmany (M.1 0 3)) else zsum (zc_meet_W116 a b k what (zmany (M.1 0 3)) 995 0 0 G) (fun r116 => r116) (fun q116 => (if k = -1 then (q116.1, q116.2.2) else (-1, q116.2.2)))) else zsum (zc_meet_W116 a b k what (zmany (M.1 0 3)) 995 0 0 G) (fun r116 => r116) (fun q116 => (if k = -1 then (q116.1, q116.2.2) else (-1, q116.2.2)))) := by
        unfold zc_meet
        rw [if_pos (show 0 ≤ a ∧ a < M.1 0 4 ∧ a < 6 by omega), if_pos (show 0 ≤ b ∧ b < M.1 0 4 ∧ b < 6 by omega), if_neg (by omega), if_neg (by omega), if_pos t.2]
        simp only [zlet_v]
        rw [← hG, vG.p]
      have em : zm_meet S a b k what = (if k = -1 then (if what = 1 then zm_timesAmong S a b 0 (zmany (M.1 0 3)) else zsum (zm_meet_W55 S a b k what 995 0 0) (fun r55 => r55) (fun q55 => (if k = -1 then (q55.1, S) else (-1, S)))) else zsum (zm_meet_W55 S a b k what 995 0 0) (fun r55 => r55) (fun q55 => (if k = -1 then (q55.1, S) else (-1, S)))) := by
        unfold zm_meet
        rw [ea, bI_t h, zB_isIn, if_pos t.1]
        simp only [zlet_v]
        rw [if_neg (by decide), if_neg (by omega), if_neg (by decide), zB_points hB.1]
      have lp : ∃ t N' U', zsum (zc_meet_W116 a b k what (zmany (M.1 0 3)) 995 0 0 G) (fun r116 => r116) (fun q116 => (if k = -1 then (q116.1, q116.2.2) else (-1, q116.2.2))) = (t, N') ∧ zsum (zm_meet_W55 S a b k what 995 0 0) (fun r55 => r55) (fun q55 => (if k = -1 then (q55.1, S) else (-1, S))) = (t, U') ∧ zVE N' M ∧ zFm S U' := by
        rcases zB_meetW hB hR.2 hC (k := k) (what := what) h.1 h.2 995 0 0 G vG G24 (Int.le_refl _) with ⟨r, N', U', e1, e2, e3, e4⟩ | ⟨n', q', N', e1, e2, e3⟩
        · rw [e1, e2]
          exact ⟨r, N', U', rfl, rfl, e3, e4⟩
        · rw [e1, e2]
          by_cases y : k = -1
          · refine ⟨n', N', S, ?_, ?_, e3, zFm.rf⟩
            · show (if k = -1 then (n', N') else (-1, N')) = _
              rw [if_pos y]
            · show (if k = -1 then (n', S) else (-1, S)) = _
              rw [if_pos y]
          · refine ⟨-1, N', S, ?_, ?_, e3, zFm.rf⟩
            · show (if k = -1 then (n', N') else (-1, N')) = _
              rw [if_neg y]
            · show (if k = -1 then (n', S) else (-1, S)) = _
              rw [if_neg y]
      have al : ∃ t N' U', zc_meet M a b k what = (t, N') ∧ zm_meet S a b k what = (t, U') ∧ zVE N' M ∧ zFm S U' := by
        rw [ec, em]
        by_cases y : k = -1
        · rw [if_pos y, if_pos y]
          by_cases x : what = 1
          · rw [if_pos x, if_pos x]
            exact zB_between hB hR.2 hC h.1 h.2 (Int.le_refl _) (Int.le_refl _) vG G24 zFm.rf
          · rw [if_neg x, if_neg x]
            exact lp
        · rw [if_neg y, if_neg y]
          exact lp
      obtain ⟨t, N', U', e1, e2, e3, e4⟩ := al
      rw [e1, e2]
      exact ⟨rfl, zBm_q hR hC e3 e4⟩
    · refine no _ _ ?_ ?_
      · unfold zc_meet
        rw [if_pos (show 0 ≤ a ∧ a < M.1 0 4 ∧ a < 6 by omega), if_pos (show 0 ≤ b ∧ b < M.1 0 4 ∧ b < 6 by omega)]
        by_cases q : what < 0
        · rw [if_pos q]
        · rw [if_neg q]
          by_cases q2 : 1 < what
          · rw [if_pos q2]
          · rw [if_neg q2, if_neg (by omega)]
      · unfold zm_meet
        rw [ea, bI_t h, zlet_v, if_neg (by decide)]
        by_cases q : k < -1
        · rw [if_pos q]
        · rw [if_neg q, zB_isIn, if_neg (by omega), zlet_v, if_pos rfl]
  · refine no _ _ ?_ ?_
    · unfold zc_meet
      by_cases q : 0 ≤ a ∧ a < M.1 0 4
      · rw [if_pos (show 0 ≤ a ∧ a < M.1 0 4 ∧ a < 6 by omega), if_neg (fun z => h ⟨q, by omega⟩)]
      · rw [if_neg (show ¬ (0 ≤ a ∧ a < M.1 0 4 ∧ a < 6) by omega)]
        split <;> rfl
    · unfold zm_meet
      rw [ea, bI_f h, zlet_v, if_pos rfl]
/-- the greatest, both -/
theorem zB_mostW {M : zCt} {S : zS2} (hB : zBs M S) (hX : zBx M) (hC : zCI M) {a b what : Int} (ha : 0 ≤ a ∧ a < M.1 0 4) (hb : 0 ≤ b ∧ b < M.1 0 4) : ∀ (fu : Nat) (y x q : Int) (N : zCt) (U : zS2), zVE N M → N.1 24 = zcmP (M.2.1 a.toNat) (M.2.1 b.toNat) (M.1 0 3) → zFm S U → 0 ≤ q → 0 ≤ y → (∃ r N' U', zc_most_W81 a b what (zmany (M.1 0 3)) fu y x q N = .inl (r, N') ∧ zm_most_W29 a b what fu y x q U = .inl (r, U') ∧ zVE N' M ∧ zFm S U') ∨ ∃ y' x' q' N' U', zc_most_W81 a b what (zmany (M.1 0 3)) fu y x q N = .inr (y', x', q', N') ∧ zm_most_W29 a b what fu y x q U = .inr (y', x', q', U') ∧ zVE N' M ∧ zFm S U'
  | 0, y, x, q, N, U, hN, h24, hU, h0, hy => Or.inr ⟨y, x, q, N, U, rfl, rfl, hN, hU⟩
  | fu + 1, y, x, q, N, U, hN, h24, hU, h0, hy => by
    simp only [zc_most_W81, zm_most_W29]
    rw [zB_points (show U 0 10 = M.1 0 3 by rw [hU.p]; exact hB.1)]
    simp only [zlet_v]
    by_cases c : zmany (M.1 0 3) ≤ q
    · rw [if_pos c, if_pos c]
      exact Or.inr ⟨y, x, q, N, U, rfl, rfl, hN, hU⟩
    · rw [if_neg c, if_neg c]
      have hq : zpt q (M.1 0 3) := ⟨h0, by omega⟩
      obtain ⟨w, G, e1, e2, e3, e4, e5⟩ := zB_on hB hX hC ha hb hq hN hU
      rw [e1, e4]
      dsimp only
      by_cases z : w = 0
      · rw [if_pos z, if_pos z, if_pos hy]
        exact zB_mostW hB hX hC ha hb fu y x (q + 1) G U e2 (e3.trans h24) hU (by omega) hy
      · rw [if_neg z, if_neg z]
        obtain ⟨t, N', U', c1, c2, c3, c4, c5, c6⟩ := zB_timesAt hB hX hC ha hb hq e2 (e3.trans h24) hU
        rw [c1, c2]
        dsimp only
        by_cases z2 : t = -2
        · rw [if_pos z2, if_pos z2]
          by_cases z3 : what = 0
          · rw [if_pos z3, if_pos z3]
            exact Or.inl ⟨-2, N', U', rfl, rfl, c3, c5⟩
          · rw [if_neg z3, if_neg z3]
            exact Or.inl ⟨q, N', U', rfl, rfl, c3, c5⟩
        · rw [if_neg z2, if_neg z2]
          have t0 : 0 ≤ t := by
            rcases c6 with c6 | c6
            · exact absurd c6 z2
            · exact c6.1
          by_cases z4 : t ≤ y
          · rw [if_pos z4, if_neg (by omega)]
            exact zB_mostW hB hX hC ha hb fu y x (q + 1) N' U' c3 c4 c5 (by omega) hy
          · rw [if_neg z4, if_pos (by omega)]
            exact zB_mostW hB hX hC ha hb fu t q (q + 1) N' U' c3 c4 c5 (by omega) t0
theorem zfact_27 (L : Nat) : zlK_27 zBm L := by
  intro i M S a b what _ _ hR hC hI _ _ _
  have hB := hR.1.2.2.1
  have cn := hC.cn
  have ea := zm_areC (S := S) (a := a) (b := b)
  rw [hB.2.1] at ea
  have no : ∀ c : Int × zCt, ∀ m : Int × zS2, c = (-1, M) → m = (-1, S) → c.1 = m.1 ∧ zBm (i + 8) c.2 m.2 := fun c m e1 e2 => by
    rw [e1, e2]
    exact ⟨rfl, zBm_q hR hC zVE.rf zFm.rf⟩
  by_cases h : (0 ≤ a ∧ a < M.1 0 4) ∧ (0 ≤ b ∧ b < M.1 0 4)
  · by_cases t : 0 ≤ what ∧ what ≤ 1
    · obtain ⟨G, hG⟩ : ∃ G, G = zw_common M (M.2.1 a.toNat) (M.2.1 b.toNat) (M.1 0 3) := ⟨_, rfl⟩
      have vG : zVE G M := by rw [hG]; exact zv_common
      have G24 : G.1 24 = zcmP (M.2.1 a.toNat) (M.2.1 b.toNat) (M.1 0 3) := by rw [hG]; exact zw_common24
      have ec : zc_most M a b what = zsum (zc_most_W81 a b what (zmany (M.1 0 3)) 995 0 (-1) 0 G) (fun r81 => r81) (fun q81 => (if what = 0 then (q81.1, q81.2.2.2) else (q81.2.1, q81.2.2.2))) := by
        unfold zc_most
        rw [if_pos (show 0 ≤ a ∧ a < M.1 0 4 ∧ a < 6 by omega), if_pos (show 0 ≤ b ∧ b < M.1 0 4 ∧ b < 6 by omega), if_neg (by omega), if_pos t.2]
        simp only [zlet_v]
        rw [← hG, vG.p]
      have em : zm_most S a b what = zsum (zm_most_W29 a b what 995 0 (-1) 0 S) (fun r29 => r29) (fun q29 => (if what = 0 then (q29.1, q29.2.2.2) else (q29.2.1, q29.2.2.2))) := by
        unfold zm_most
        rw [ea, bI_t h, zB_isIn, if_pos t]
        simp only [zlet_v]
        rw [if_neg (by decide), if_neg (by decide)]
      rw [ec, em]
      rcases zB_mostW hB hR.2 hC (what := what) h.1 h.2 995 0 (-1) 0 G S vG G24 zFm.rf (Int.le_refl _) (Int.le_refl _) with ⟨r, N', U', e1, e2, e3, e4⟩ | ⟨y', x', q', N', U', e1, e2, e3, e4⟩
      · rw [e1, e2]
        exact ⟨rfl, zBm_q hR hC e3 e4⟩
      · rw [e1, e2]
        show (if what = 0 then (y', N') else (x', N')).1 = (if what = 0 then (y', U') else (x', U')).1 ∧ zBm (i + 8) (if what = 0 then (y', N') else (x', N')).2 (if what = 0 then (y', U') else (x', U')).2
        by_cases y : what = 0
        · rw [if_pos y, if_pos y]
          exact ⟨rfl, zBm_q hR hC e3 e4⟩
        · rw [if_neg y, if_neg y]
          exact ⟨rfl, zBm_q hR hC e3 e4⟩
    · refine no _ _ ?_ ?_
      · unfold zc_most
        rw [if_pos (show 0 ≤ a ∧ a < M.1 0 4 ∧ a < 6 by omega), if_pos (show 0 ≤ b ∧ b < M.1 0 4 ∧ b < 6 by omega)]
        by_cases q : what < 0
        · rw [if_pos q]
        · rw [if_neg q, if_neg (by omega)]
      · unfold zm_most
        rw [ea, bI_t h, zlet_v, if_neg (by decide), zB_isIn, if_neg t, zlet_v, if_pos rfl]
  · refine no _ _ ?_ ?_
    · unfold zc_most
      by_cases q : 0 ≤ a ∧ a < M.1 0 4
      · rw [if_pos (show 0 ≤ a ∧ a < M.1 0 4 ∧ a < 6 by omega), if_neg (fun z => h ⟨q, by omega⟩)]
      · rw [if_neg (show ¬ (0 ≤ a ∧ a < M.1 0 4 ∧ a < 6) by omega)]
        split <;> rfl
    · unfold zm_most
      rw [ea, bI_f h, zlet_v, if_pos rfl]
end ZHk
