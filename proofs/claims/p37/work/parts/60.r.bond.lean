section ZBa
/-- the tape -/
def zBt (M : zCt) (S : zS2) : Prop := S 0 1 = M.1 0 2 ∧ ∀ k : Nat, (k : Int) < M.1 0 2 → S 1 k = M.1 2 k
/-- the faults, the refusals -/
def zBf (M : zCt) (S : zS2) : Prop := (S 0 3 = M.1 0 0 ∧ S 0 4 = M.1 0 1) ∧ ∀ k : Nat, k < 5 → S 2 k = M.1 1 k
/-- P, the CURVES, the NAMES -/
def zBs (M : zCt) (S : zS2) : Prop := S 0 10 = M.1 0 3 ∧ S 0 13 = M.1 0 4 ∧ ∀ c : Nat, (c : Int) < M.1 0 4 → (∀ j : Nat, j < 25 → S 3 (25 * c + j) = M.2.1 c j) ∧ (∀ i : Nat, i < 6 → zlt5 (S 5 c) (5 * i) = M.1 3 (6 * c + i)) ∧ 0 < ztop (M.2.1 c)
/-- where the class keeps what stood j ACTS ago -/
def zBix (nx : Int) (j : Nat) : Nat := ((nx - 1 - j + 20) % 20).toNat
/-- the past -/
def zBp (M : zCt) (S : zS2) : Prop := S 0 35 = M.1 0 5 ∧ ∀ j : Nat, (j : Int) < M.1 0 5 → M.1 40 (zBix (M.1 0 6) j) = M.1 0 3 ∧ S 20 (157 * (M.1 0 5 - 1 - j).toNat) = M.1 41 (zBix (M.1 0 6) j) ∧
  ∀ c : Nat, (c : Int) < M.1 41 (zBix (M.1 0 6) j) → (∀ q : Nat, q < 25 → S 20 (157 * (M.1 0 5 - 1 - j).toNat + 7 + 25 * c + q) = M.2.2.2.1 (zBix (M.1 0 6) j) c q) ∧ (∀ i : Nat, i < 6 → zlt5 (S 20 (157 * (M.1 0 5 - 1 - j).toNat + 1 + c)) (5 * i) = M.2.2.1 (zBix (M.1 0 6) j) (6 * c + i)) ∧ 0 < ztop (M.2.2.2.1 (zBix (M.1 0 6) j) c)
def zBl (_ : Int) (M : zCt) (S : zS2) : Prop := zBt M S ∧ zBf M S ∧ zBs M S ∧ zBp M S
theorem za_row2 {S : zS2} {k i : Nat} {x : Int} : za S k i x k = zup (S k) i x := zset_self _ _ _
theorem zapF_s {x sh : Int} {m : Nat} {s : Int × (Nat → Int)} (h : s.1 < 1000) : zapF x (m + 1) sh s = zapF x m (sh - 8) (s.1 + 1, zup s.2 s.1.toNat (zbyt x sh)) := by
  simp only [zapF]
  rw [if_pos h]
theorem zapp_4 {x n : Int} {T : Nat → Int} (h : 0 ≤ n) (h2 : n + 4 ≤ 1000) : zapp x (n, T) = (n + 4, zup (zup (zup (zup T n.toNat (zbyt x 24)) (n + 1).toNat (zbyt x 16)) (n + 2).toNat (zbyt x 8)) (n + 3).toNat (zbyt x 0)) := by
  unfold zapp
  rw [zapF_s (show n < 1000 by omega), zapF_s (show n + 1 < 1000 by omega), zapF_s (show n + 1 + 1 < 1000 by omega), zapF_s (show n + 1 + 1 + 1 < 1000 by omega)]
  show (n + 1 + 1 + 1 + 1, zup (zup (zup (zup T n.toNat (zbyt x 24)) (n + 1).toNat (zbyt x (24 - 8))) (n + 1 + 1).toNat (zbyt x (24 - 8 - 8))) (n + 1 + 1 + 1).toNat (zbyt x (24 - 8 - 8 - 8))) = _
  rw [show n + 1 + 1 = n + 2 by omega, show n + 2 + 1 = n + 3 by omega, show n + 3 + 1 = n + 4 by omega]
  rfl
theorem zw_append_4 {M : zCt} {x : Int} (h : 0 ≤ M.1 0 2) (h2 : M.1 0 2 + 4 ≤ 1000) : (zw_append M x).1 0 2 = M.1 0 2 + 4 ∧ (zw_append M x).1 2 = zup (zup (zup (zup (M.1 2) (M.1 0 2).toNat (zbyt x 24)) (M.1 0 2 + 1).toNat (zbyt x 16)) (M.1 0 2 + 2).toNat (zbyt x 8)) (M.1 0 2 + 3).toNat (zbyt x 0) ∧ (zw_append M x).2 = M.2 ∧ ∀ k i : Nat, k ≠ 2 → ¬ (k = 0 ∧ i = 2) → (zw_append M x).1 k i = M.1 k i := by
  obtain ⟨Z, hZ⟩ : ∃ Z, Z = (zup (zup (zup (zup (M.1 2) (M.1 0 2).toNat (zbyt x 24)) (M.1 0 2 + 1).toNat (zbyt x 16)) (M.1 0 2 + 2).toNat (zbyt x 8)) (M.1 0 2 + 3).toNat (zbyt x 0)) := ⟨_, rfl⟩
  have e : zw_append M x = (zset (za M.1 0 2 (M.1 0 2 + 4)) 2 Z, M.2) := by
    unfold zw_append
    rw [zapp_4 h h2, hZ]
  rw [e, ← hZ]
  refine ⟨?_, ?_, rfl, fun k i h1 h3 => ?_⟩
  · show zset (za M.1 0 2 (M.1 0 2 + 4)) 2 Z 0 2 = _
    rw [zset_ne _ _ (by decide), za_same]
  · exact zset_self (za M.1 0 2 (M.1 0 2 + 4)) 2 Z
  · show zset (za M.1 0 2 (M.1 0 2 + 4)) 2 Z k i = _
    rw [zset_ne _ _ h1, za_ne h3]
/-- the rest of the bond looks neither at the tape nor beyond -/
theorem zBf.same {M N : zCt} {S U : zS2} (h : zBf M S) (hM : ∀ i, i < 2 → N.1 0 i = M.1 0 i) (hM1 : ∀ i, N.1 1 i = M.1 1 i) (hS : ∀ i, i = 3 ∨ i = 4 → U 0 i = S 0 i) (hS2 : ∀ i, U 2 i = S 2 i) : zBf N U :=
  ⟨⟨by rw [hM 0 (by decide), hS 3 (by decide)]; exact h.1.1, by rw [hM 1 (by decide), hS 4 (by decide)]; exact h.1.2⟩, fun k hk => by rw [hM1, hS2]; exact h.2 k hk⟩
theorem zBs.same {M N : zCt} {S U : zS2} (h : zBs M S) (h3 : N.1 0 3 = M.1 0 3) (h4 : N.1 0 4 = M.1 0 4) (hl : N.1 3 = M.1 3) (hc : N.2.1 = M.2.1) (s10 : U 0 10 = S 0 10) (s13 : U 0 13 = S 0 13) (s3 : ∀ i, i < 150 → U 3 i = S 3 i) (s5 : ∀ i, i < 6 → U 5 i = S 5 i) (hn : M.1 0 4 ≤ 6) : zBs N U := by
  refine ⟨by rw [h3, s10]; exact h.1, by rw [h4, s13]; exact h.2.1, fun c hk => ?_⟩
  rw [h4] at hk
  rw [hl, hc]
  obtain ⟨q1, q2, q3⟩ := h.2.2 c hk
  exact ⟨fun j hj => by rw [s3 _ (by omega)]; exact q1 j hj, fun i hi => by rw [s5 _ (by omega)]; exact q2 i hi, q3⟩
theorem zBp.same {M N : zCt} {S U : zS2} (h : zBp M S) (h3 : N.1 0 3 = M.1 0 3) (h5 : N.1 0 5 = M.1 0 5) (h6 : N.1 0 6 = M.1 0 6) (h40 : N.1 40 = M.1 40) (h41 : N.1 41 = M.1 41) (hc : N.2.2.1 = M.2.2.1) (hd : N.2.2.2.1 = M.2.2.2.1) (s35 : U 0 35 = S 0 35) (s20 : ∀ i, U 20 i = S 20 i) : zBp N U := by
  refine ⟨by rw [h5, s35]; exact h.1, fun j hj => ?_⟩
  rw [h5] at hj
  rw [h3, h5, h6, h40, h41, hc, hd]
  simp only [s20]
  exact h.2 j hj
/-- a refusal more -/
theorem zBl_ref {i : Int} {M : zCt} {S : zS2} {k : Nat} (h : zBl i M S) (hC : zCI M) (hk : k < 5) : zBl i (zw_ref M k ((M.1 1 k) + 1)) (za S 2 k ((S 2 k) + 1)) := by
  have a4 : ∀ a b : Nat, a ≠ 1 → (zw_ref M k ((M.1 1 k) + 1)).1 a b = M.1 a b := fun a b q => za_ne (fun w => q w.1)
  have b3 : ∀ a b : Nat, a ≠ 2 → (za S 2 k ((S 2 k) + 1)) a b = S a b := fun a b q => za_ne (fun w => q w.1)
  have hn := hC.cn
  refine ⟨⟨(b3 0 1 (by omega)).trans h.1.1, fun q hq => ?_⟩, ⟨⟨h.2.1.1.1, h.2.1.1.2⟩, fun q hq => ?_⟩,
    h.2.2.1.same (a4 0 3 (by omega)) (a4 0 4 (by omega)) (funext fun i => a4 3 i (by omega)) rfl (b3 0 10 (by omega)) (b3 0 13 (by omega)) (fun i _ => b3 3 i (by omega)) (fun i _ => b3 5 i (by omega)) hn.2,
    h.2.2.2.same (a4 0 3 (by omega)) (a4 0 5 (by omega)) (a4 0 6 (by omega)) (funext fun i => a4 40 i (by omega)) (funext fun i => a4 41 i (by omega)) rfl rfl (b3 0 35 (by omega)) (fun i => b3 20 i (by omega))⟩
  · exact h.1.2 q hq
  · show za S 2 k ((S 2 k) + 1) 2 q = za M.1 1 k ((M.1 1 k) + 1) 1 q
    rw [za_row2, za_row2]
    unfold zup
    split
    · rename_i e
      rw [h.2.1.2 k hk]
    · exact h.2.1.2 q hq
theorem zB_refuse {M : zCt} {k : Int} (h : 0 ≤ k ∧ k < 5) : zc_refuse M k = zw_ref M k.toNat ((M.1 1 k.toNat) + 1) := by
  unfold zc_refuse
  rw [if_neg (by omega), if_neg (by omega)]
  rfl
theorem zB_len {n k : Int} (h : ¬ k = 0) (e : (if n ≤ 980 then (1 : Int) else 0) = k) : n ≤ 980 := by
  by_cases q : n ≤ 980
  · exact q
  · rw [if_neg q] at e; omega
end ZBa
