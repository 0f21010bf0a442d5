section ZHi
theorem zc_times_st {N M : zCt} (hN : zVE N M) (hp : 2 ≤ M.1 0 3 ∧ M.1 0 3 ≤ 31) {a b pt : Int} (hpt : zpt pt (M.1 0 3)) {P : Nat → Int} (h24 : N.1 24 = P) : (zval P (zpx pt (M.1 0 3)) (zpy pt (M.1 0 3)) (zpz pt (M.1 0 3)) (M.1 0 3) = 0 ∧ ∃ N', zc_timesAt N a b pt = (-2, N') ∧ zVE N' M ∧ N'.1 24 = P) ∨ (zval P (zpx pt (M.1 0 3)) (zpy pt (M.1 0 3)) (zpz pt (M.1 0 3)) (M.1 0 3) ≠ 0 ∧ ∃ (N' : zCt) (ki : Nat → Int) (R : zRs), R = zrun (M.1 0 3) 2048 0 (zld (zLk M a pt)) (zld (zLk M b pt)) (fun _ => 0) ki 0 ∧ zc_timesAt N a b pt = (R.1, N') ∧ zVE N' M ∧ N'.1 24 = P ∧ N'.1 0 15 = R.2.1 ∧ N'.1 25 = R.2.2.2.2.1 ∧ N'.1 26 = R.2.2.2.2.2) := by
  have hq : zpt pt (N.1 0 3) := by rw [hN.p]; exact hpt
  obtain ⟨⟨g1, g2, g3⟩, _⟩ := zgo_rng (M := N) (n := pt) (p := N.1 0 3) (by rw [hN.p]; exact hp) (by rw [bI_t hq]; decide)
  obtain ⟨G, hG⟩ : ∃ G, G = zw_go N pt (N.1 0 3) := ⟨_, rfl⟩
  rw [← hG] at g1 g2 g3
  have vG : zVE G M := by rw [hG]; exact zv_go.tr hN
  have G24 : G.1 24 = P := by
    rw [← h24, hG]
    unfold zw_go
    dsimp only
    rw [za_row (by decide), za_row (by decide), za_row (by decide)]
  have e2 : G.2.1 = M.2.1 := by rw [vG.1]
  rw [hN.p] at g1 g2 g3
  have ec : zc_timesAt N a b pt = (if zval P (zpx pt (M.1 0 3)) (zpy pt (M.1 0 3)) (zpz pt (M.1 0 3)) (M.1 0 3) = 0 then (-2, G) else ((zrunA ((zw_look2 (zw_look1 G (G.2.1 a.toNat) (G.1 0 3)) ((zw_look1 G (G.2.1 a.toNat) (G.1 0 3)).2.1 b.toNat) ((zw_look1 G (G.2.1 a.toNat) (G.1 0 3)).1 0 3)).1 0 3) ((zw_look2 (zw_look1 G (G.2.1 a.toNat) (G.1 0 3)) ((zw_look1 G (G.2.1 a.toNat) (G.1 0 3)).2.1 b.toNat) ((zw_look1 G (G.2.1 a.toNat) (G.1 0 3)).1 0 3)).1 20) ((zw_look2 (zw_look1 G (G.2.1 a.toNat) (G.1 0 3)) ((zw_look1 G (G.2.1 a.toNat) (G.1 0 3)).2.1 b.toNat) ((zw_look1 G (G.2.1 a.toNat) (G.1 0 3)).1 0 3)).1 22) ((zw_look2 (zw_look1 G (G.2.1 a.toNat) (G.1 0 3)) ((zw_look1 G (G.2.1 a.toNat) (G.1 0 3)).2.1 b.toNat) ((zw_look1 G (G.2.1 a.toNat) (G.1 0 3)).1 0 3)).1 26)).1, zw_run (zw_look2 (zw_look1 G (G.2.1 a.toNat) (G.1 0 3)) ((zw_look1 G (G.2.1 a.toNat) (G.1 0 3)).2.1 b.toNat) ((zw_look1 G (G.2.1 a.toNat) (G.1 0 3)).1 0 3)) ((zw_look2 (zw_look1 G (G.2.1 a.toNat) (G.1 0 3)) ((zw_look1 G (G.2.1 a.toNat) (G.1 0 3)).2.1 b.toNat) ((zw_look1 G (G.2.1 a.toNat) (G.1 0 3)).1 0 3)).1 20) ((zw_look2 (zw_look1 G (G.2.1 a.toNat) (G.1 0 3)) ((zw_look1 G (G.2.1 a.toNat) (G.1 0 3)).2.1 b.toNat) ((zw_look1 G (G.2.1 a.toNat) (G.1 0 3)).1 0 3)).1 22) ((zw_look2 (zw_look1 G (G.2.1 a.toNat) (G.1 0 3)) ((zw_look1 G (G.2.1 a.toNat) (G.1 0 3)).2.1 b.toNat) ((zw_look1 G (G.2.1 a.toNat) (G.1 0 3)).1 0 3)).1 0 3))) := by
    unfold zc_timesAt
    rw [bI_t hq]
    simp only [zlet_v]
    rw [← hG, if_neg (by decide), G24, g1, g2, g3, vG.p]
  obtain ⟨A, hA⟩ : ∃ A, A = zw_look1 G (G.2.1 a.toNat) (G.1 0 3) := ⟨_, rfl⟩
  rw [← hA] at ec
  have vA : zVE A M := by rw [hA]; exact zv_look1.tr vG
  obtain ⟨B, hB⟩ : ∃ B, B = zw_look2 A (A.2.1 b.toNat) (A.1 0 3) := ⟨_, rfl⟩
  rw [← hB] at ec
  have vB : zVE B M := by rw [hB]; exact zv_look2.tr vA
  have a1 : ∀ k i : Nat, k ≠ 20 → ¬ (k = 0 ∧ i = 13) → A.1 k i = G.1 k i := fun k i h1 h2 => by rw [hA]; exact zw_look1_o h1 h2
  have b1 : ∀ k i : Nat, k ≠ 22 → ¬ (k = 0 ∧ i = 14) → B.1 k i = A.1 k i := fun k i h1 h2 => by
    rw [hB]
    unfold zw_look2
    dsimp only
    rw [zset_ne _ _ h1, za_ne h2]
  have A20 : A.1 20 = zLk M a pt := by
    rw [hA]
    unfold zw_look1
    dsimp only
    rw [zset_self, g1, g2, g3, e2, vG.p]
    rfl
  have B20 : B.1 20 = zLk M a pt := by
    rw [← A20]
    exact funext fun i => b1 20 i (by omega) (by omega)
  have B22 : B.1 22 = zLk M b pt := by
    rw [hB]
    unfold zw_look2
    dsimp only
    rw [zset_self, a1 0 10 (by decide) (by decide), a1 0 11 (by decide) (by decide), a1 0 12 (by decide) (by decide), g1, g2, g3, vA.1, vA.p]
    rfl
  have B24 : B.1 24 = P := by
    rw [← G24]
    exact funext fun i => (b1 24 i (by omega) (by omega)).trans (a1 24 i (by omega) (by omega))
  rw [vB.p, B20, B22] at ec
  by_cases hv : zval P (zpx pt (M.1 0 3)) (zpy pt (M.1 0 3)) (zpz pt (M.1 0 3)) (M.1 0 3) = 0
  · rw [if_pos hv] at ec
    exact Or.inl ⟨hv, G, ec, vG, G24⟩
  · rw [if_neg hv] at ec
    obtain ⟨R, hR⟩ : ∃ R, R = zrun (M.1 0 3) 2048 0 (zld (zLk M a pt)) (zld (zLk M b pt)) (fun _ => 0) (B.1 26) 0 := ⟨_, rfl⟩
    have hRA : zrunA (M.1 0 3) (zLk M a pt) (zLk M b pt) (B.1 26) = R := by rw [hR]; rfl
    refine Or.inr ⟨hv, _, B.1 26, R, hR, ec.trans (by rw [hRA]), zv_run.tr vB, ?_, ?_, ?_, ?_⟩
    · unfold zw_run
      dsimp only
      rw [zset_ne _ _ (by decide), zset_ne _ _ (by decide), za_row (by decide), za_row (by decide), B24]
    · unfold zw_run
      dsimp only
      rw [zset_ne _ _ (by decide), zset_ne _ _ (by decide), za_ne (by decide), za_same, hRA]
    · unfold zw_run
      dsimp only
      rw [zset_ne _ _ (by decide), zset_self, hRA]
    · unfold zw_run
      dsimp only
      rw [zset_self, hRA]
end ZHi
