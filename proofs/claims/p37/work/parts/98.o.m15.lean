section ZWp
/-- what was noted of the RULES before doesn't matter -/
theorem zrun_ki {p : Int} : ∀ (n : Nat) (st : Int) (F G o ki kj : Nat → Int) (sm : Int), (zrun p n st F G o ki sm).1 = (zrun p n st F G o kj sm).1 ∧ (zrun p n st F G o ki sm).2.1 = (zrun p n st F G o kj sm).2.1 ∧ (zrun p n st F G o ki sm).2.2.2.2.1 = (zrun p n st F G o kj sm).2.2.2.2.1
  | 0, st, F, G, o, ki, kj, sm => ⟨rfl, rfl, rfl⟩
  | n + 1, st, F, G, o, ki, kj, sm => by
    unfold zrun
    by_cases c1 : zwhich F G = 1
    · rw [if_pos c1, if_pos c1]
      exact zrun_ki n _ _ _ _ _ _ _
    · rw [if_neg c1, if_neg c1]
      by_cases c2 : zwhich F G = 2
      · rw [if_pos c2, if_pos c2]
        exact zrun_ki n _ _ _ _ _ _ _
      · rw [if_neg c2, if_neg c2]
        by_cases c3 : zwhich F G = 3
        · rw [if_pos c3, if_pos c3]
          exact zrun_ki n _ _ _ _ _ _ _
        · rw [if_neg c3, if_neg c3]
          exact ⟨rfl, rfl, rfl⟩
theorem zup_at (o : Nat → Int) (k : Nat) (x : Int) : zup o k x k = x := if_pos rfl
theorem zup_o {o : Nat → Int} {k j : Nat} {x : Int} (h : j ≠ k) : zup o k x j = o j := if_neg h
/-- how it ends: the last one END, each counted -/
theorem zrun_end {p : Int} : ∀ (n N : Nat) (st : Int) (F G o ki : Nat → Int) (sm : Int), zrE p n F G → n ≤ N → 0 ≤ st → (zrun p N st F G o ki sm).2.2.2.2.1 0 = o 0 + 1 ∧ (zrun p N st F G o ki sm).2.2.2.2.1 0 + (zrun p N st F G o ki sm).2.2.2.2.1 1 + (zrun p N st F G o ki sm).2.2.2.2.1 2 + (zrun p N st F G o ki sm).2.2.2.2.1 3 = o 0 + o 1 + o 2 + o 3 + ((zrun p N st F G o ki sm).2.1 - st) ∧ (zrun p N st F G o ki sm).2.2.2.2.2 ((zrun p N st F G o ki sm).2.1 - 1).toNat = 0 ∧ st + 1 ≤ (zrun p N st F G o ki sm).2.1 ∧ (zrun p N st F G o ki sm).2.1 ≤ st + n
  | 0, N, st, F, G, o, ki, sm, h, _, _ => absurd h id
  | n + 1, 0, st, F, G, o, ki, sm, _, h, _ => absurd h (Nat.not_succ_le_zero n)
  | n + 1, N + 1, st, F, G, o, ki, sm, h, hN, hs => by
    unfold zrun
    rcases h with c0 | ⟨c1, c2, c3⟩ | ⟨c1, c3⟩ | ⟨c1, c3⟩
    · rw [if_neg (show ¬ zwhich F G = 1 by omega), if_neg (show ¬ zwhich F G = 2 by omega), if_neg (show ¬ zwhich F G = 3 by omega)]
      show zup o 0 (o 0 + 1) 0 = o 0 + 1 ∧ zup o 0 (o 0 + 1) 0 + zup o 0 (o 0 + 1) 1 + zup o 0 (o 0 + 1) 2 + zup o 0 (o 0 + 1) 3 = o 0 + o 1 + o 2 + o 3 + (st + 1 - st) ∧ zup ki st.toNat 0 (st + 1 - 1).toNat = 0 ∧ st + 1 ≤ st + 1 ∧ st + 1 ≤ st + ((n + 1 : Nat) : Int)
      rw [zup_at, zup_o (by decide), zup_o (by decide), zup_o (by decide), show (st + 1 - 1).toNat = st.toNat by omega, zup_at]
      exact ⟨rfl, by omega, rfl, by omega, by omega⟩
    · rw [if_pos c1]
      obtain ⟨a1, a2, a3, a4, a5⟩ := zrun_end n N (st + 1) (zspl F) G (zup o 1 (o 1 + 1)) (zup ki st.toNat 1) (sm + max (zlst G) 0) c3 (by omega) (by omega)
      rw [zup_o (by decide)] at a1
      rw [zup_o (by decide), zup_at, zup_o (by decide), zup_o (by decide)] at a2
      exact ⟨a1, by omega, a3, by omega, by omega⟩
    · rw [if_neg (show ¬ zwhich F G = 1 by omega), if_pos c1]
      obtain ⟨a1, a2, a3, a4, a5⟩ := zrun_end n N (st + 1) G F (zup o 2 (o 2 + 1)) (zup ki st.toNat 2) sm c3 (by omega) (by omega)
      rw [zup_o (by decide)] at a1
      rw [zup_o (by decide), zup_o (by decide), zup_at, zup_o (by decide)] at a2
      exact ⟨a1, by omega, a3, by omega, by omega⟩
    · rw [if_neg (show ¬ zwhich F G = 1 by omega), if_neg (show ¬ zwhich F G = 2 by omega), if_pos c1]
      obtain ⟨a1, a2, a3, a4, a5⟩ := zrun_end n N (st + 1) F (zcut F G p) (zup o 3 (o 3 + 1)) (zup ki st.toNat 3) sm c3 (by omega) (by omega)
      rw [zup_o (by decide)] at a1
      rw [zup_o (by decide), zup_o (by decide), zup_o (by decide), zup_at] at a2
      exact ⟨a1, by omega, a3, by omega, by omega⟩
end ZWp
section ZWq
/-- two CURVES on the shelf -/
def zP2 (M : zCt) (p : Int) (a b : Nat → Int) : Prop := (M.1 0 3 = p ∧ M.1 0 4 = 2) ∧ M.2.1 0 = a ∧ M.2.1 1 = b
theorem zP2.ve {M N : zCt} {p : Int} {a b : Nat → Int} (h : zP2 M p a b) (hN : zVE N M) : zP2 N p a b := by
  obtain ⟨⟨h1, h2⟩, h3, h4⟩ := h
  refine ⟨⟨hN.p.trans h1, hN.n.trans h2⟩, ?_, ?_⟩
  · rw [hN.1]; exact h3
  · rw [hN.1]; exact h4
/-- one of the two -/
def zab (a b : Nat → Int) (k : Int) : Nat → Int := if k = 0 then a else b
theorem zP2.c {M : zCt} {p : Int} {a b : Nat → Int} (h : zP2 M p a b) {k : Int} (hk : k = 0 ∨ k = 1) : M.2.1 k.toNat = zab a b k := by
  rcases hk with rfl | rfl
  · exact h.2.1
  · exact h.2.2
theorem zP2.i {M : zCt} {p : Int} {a b : Nat → Int} (h : zP2 M p a b) {k : Int} (hk : k = 0 ∨ k = 1) : 0 ≤ k ∧ k < M.1 0 4 ∧ k < 6 := by
  rw [h.1.2]
  omega
theorem nA_degree {M : zCt} {p : Int} {a b : Nat → Int} (h : zP2 M p a b) {k : Int} (hk : k = 0 ∨ k = 1) : (zc_degree M k).1 = ztop (zab a b k) := by
  unfold zc_degree
  rw [if_pos (h.i hk), zlet_v, h.c hk]
theorem nA_common {M : zCt} {p : Int} {a b : Nat → Int} (h : zP2 M p a b) {k j : Int} (hk : k = 0 ∨ k = 1) (hj : j = 0 ∨ j = 1) : (zc_common M k j).1 = ztop (zcmP (zab a b k) (zab a b j) p) := by
  unfold zc_common
  rw [if_pos (h.i hk), if_pos (h.i hj)]
  simp only [zlet_v]
  rw [zw_common24, h.c hk, h.c hj, h.1.1]
theorem nA_go {M : zCt} {p : Int} {a b : Nat → Int} (h : zP2 M p a b) (hp : 2 ≤ p ∧ p ≤ 31) {q : Int} (hq : zpt q p) : ∃ G, G = zw_go M q (M.1 0 3) ∧ bI (zpt q (M.1 0 3)) = 1 ∧ (G.1 0 10 = zpx q p ∧ G.1 0 11 = zpy q p ∧ G.1 0 12 = zpz q p) ∧ zVE G M ∧ G.1 24 = M.1 24 ∧ zP2 G p a b := by
  have hq2 : zpt q (M.1 0 3) := by rw [h.1.1]; exact hq
  obtain ⟨⟨g1, g2, g3⟩, _⟩ := zgo_rng (M := M) (n := q) (p := M.1 0 3) (by rw [h.1.1]; exact hp) (by rw [bI_t hq2]; decide)
  rw [h.1.1] at g1 g2 g3
  refine ⟨_, rfl, bI_t hq2, ⟨by rw [h.1.1]; exact g1, by rw [h.1.1]; exact g2, by rw [h.1.1]; exact g3⟩, zv_go, ?_, h.ve zv_go⟩
  unfold zw_go
  dsimp only
  rw [za_row (by decide), za_row (by decide), za_row (by decide)]
theorem nA_value {M : zCt} {p : Int} {a b : Nat → Int} (h : zP2 M p a b) (hp : 2 ≤ p ∧ p ≤ 31) {k q : Int} (hk : k = 0 ∨ k = 1) (hq : zpt q p) : (zc_value M k q).1 = zval (zab a b k) (zpx q p) (zpy q p) (zpz q p) p := by
  obtain ⟨G, hG, e1, ⟨g1, g2, g3⟩, vG, g24, hP⟩ := nA_go h hp hq
  unfold zc_value
  rw [if_pos (h.i hk), e1]
  simp only [zlet_v]
  rw [← hG, if_neg (by decide), g1, g2, g3, hP.c hk, hP.1.1]
/-- a look at one of the two -/
theorem nA_look {M : zCt} {p : Int} {a b : Nat → Int} (h : zP2 M p a b) (hp : 2 ≤ p ∧ p ≤ 31) {k q : Int} (hk : k = 0 ∨ k = 1) (hq : zpt q p) : ∃ N, zc_lookAt M k q = (1, N) ∧ N.1 20 = zlook (zab a b k) p (zpx q p) (zpy q p) (zpz q p) := by
  obtain ⟨G, hG, e1, ⟨g1, g2, g3⟩, vG, g24, hP⟩ := nA_go h hp hq
  refine ⟨zw_look1 G (G.2.1 k.toNat) (G.1 0 3), ?_, ?_⟩
  · unfold zc_lookAt
    rw [if_pos (h.i hk), e1]
    simp only [zlet_v]
    rw [← hG, if_neg (by decide)]
  · unfold zw_look1
    dsimp only
    rw [zset_self, g1, g2, g3, hP.c hk, hP.1.1]
theorem nA_order {M : zCt} {p : Int} {a b : Nat → Int} (h : zP2 M p a b) (hp : 2 ≤ p ∧ p ≤ 31) {k q : Int} (hk : k = 0 ∨ k = 1) (hq : zpt q p) : (zc_order M k q).1 = zleast (zlook (zab a b k) p (zpx q p) (zpy q p) (zpz q p)) := by
  obtain ⟨N, e, n20⟩ := nA_look h hp hk hq
  unfold zc_order
  rw [e]
  simp only [zlet_v]
  rw [if_neg (by decide), n20]
theorem nA_size {M : zCt} {p : Int} {a b : Nat → Int} (h : zP2 M p a b) (hp : 2 ≤ p ∧ p ≤ 31) {k j q : Int} (hk : k = 0 ∨ k = 1) (hj : j = 0 ∨ j = 1) (hq : zpt q p) : (zc_size M k j q).1 = zszP (zlook (zab a b k) p (zpx q p) (zpy q p) (zpz q p)) (zlook (zab a b j) p (zpx q p) (zpy q p) (zpz q p)) p := by
  obtain ⟨G, hG, e1, ⟨g1, g2, g3⟩, vG, g24, hP⟩ := nA_go h hp hq
  obtain ⟨A, hA⟩ : ∃ A, A = zw_look1 G (G.2.1 k.toNat) (G.1 0 3) := ⟨_, rfl⟩
  have vA : zVE A G := by rw [hA]; exact zv_look1
  have a1 : ∀ k i : Nat, k ≠ 20 → ¬ (k = 0 ∧ i = 13) → A.1 k i = G.1 k i := fun k i h1 h2 => by rw [hA]; exact zw_look1_o h1 h2
  have A20 : A.1 20 = zlook (zab a b k) p (zpx q p) (zpy q p) (zpz q p) := by
    rw [hA]
    unfold zw_look1
    dsimp only
    rw [zset_self, g1, g2, g3, hP.c hk, hP.1.1]
  obtain ⟨B, hB⟩ : ∃ B, B = zw_look2 A (A.2.1 j.toNat) (A.1 0 3) := ⟨_, rfl⟩
  have vB : zVE B A := by rw [hB]; exact zv_look2
  have hA2 := hP.ve vA
  have B20 : B.1 20 = A.1 20 := funext fun i => by
    rw [hB]
    unfold zw_look2
    dsimp only
    rw [zset_ne _ _ (by decide), za_ne (by omega)]
  have B22 : B.1 22 = zlook (zab a b j) p (zpx q p) (zpy q p) (zpz q p) := by
    rw [hB]
    unfold zw_look2
    dsimp only
    rw [zset_self, a1 0 10 (by decide) (by decide), a1 0 11 (by decide) (by decide), a1 0 12 (by decide) (by decide), g1, g2, g3, hA2.c hj, hA2.1.1]
  unfold zc_size
  rw [if_pos (h.i hk), if_pos (h.i hj), e1]
  simp only [zlet_v]
  rw [← hG, if_neg (by decide), ← hA, ← hB, B20, A20, B22, (hA2.ve vB).1.1]
end ZWq
