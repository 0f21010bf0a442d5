section ZEc
/-- how many TERMS lie below a DEGREE -/
def nT (n : Nat) : Nat := n * (n + 1) / 2
theorem nT_s (n : Nat) : nT (n + 1) = nT n + (n + 1) := by
  unfold nT
  have e : (n + 1) * (n + 1 + 1) = n * (n + 1) + 2 * (n + 1) := by
    rw [Nat.add_mul, Nat.mul_add, Nat.mul_add, Nat.mul_add]; omega
  rw [e, Nat.add_mul_div_left _ _ (by decide)]
theorem nT_mono {n m : Nat} (h : n ≤ m) : nT n ≤ nT m := by
  induction m with
  | zero => rw [show n = 0 by omega]; exact Nat.le_refl _
  | succ m ih =>
    by_cases e : n = m + 1
    · rw [e]; exact Nat.le_refl _
    · rw [nT_s]; have := ih (by omega); omega
def ncol (i j : Nat) : Nat := nT (i + j) + j
theorem zcol_n (i j : Nat) : zcol i j = (ncol i j : Int) := by
  unfold zcol ncol nT
  rw [show ((i : Int) + (j : Int)) * ((i : Int) + (j : Int) + 1) = (((i + j) * (i + j + 1) : Nat) : Int) by simp, show (2 : Int) = ((2 : Nat) : Int) from rfl, ← Int.natCast_ediv]
  omega
theorem ncol_lt {i j d : Nat} (h : i + j < d) : ncol i j < nT d := by
  have := nT_mono (show i + j + 1 ≤ d by omega)
  rw [nT_s] at this
  unfold ncol
  omega
theorem ncol_ge {i j d : Nat} (h : d ≤ i + j) : nT d ≤ ncol i j := by
  have := nT_mono h
  unfold ncol
  omega
theorem ncol_inj {i j a b : Nat} (h : ncol i j = ncol a b) : i = a ∧ j = b := by
  have e : i + j = a + b := by
    rcases Nat.lt_trichotomy (i + j) (a + b) with q | q | q
    · have h1 := ncol_lt (i := i) (j := j) q
      have h2 := ncol_ge (i := a) (j := b) (Nat.le_refl _)
      omega
    · exact q
    · have h1 := ncol_lt (i := a) (j := b) q
      have h2 := ncol_ge (i := i) (j := j) (Nat.le_refl _)
      omega
  unfold ncol at h
  rw [e] at h
  omega
/-- the TERM of a column -/
def ndc : Nat → Nat × Nat
  | 0 => (0, 0)
  | k + 1 => if (ndc k).1 = 0 then ((ndc k).2 + 1, 0) else ((ndc k).1 - 1, (ndc k).2 + 1)
theorem ncol_ndc : ∀ k, ncol (ndc k).1 (ndc k).2 = k
  | 0 => rfl
  | k + 1 => by
    have ih := ncol_ndc k
    show ncol (if (ndc k).1 = 0 then ((ndc k).2 + 1, 0) else ((ndc k).1 - 1, (ndc k).2 + 1)).1 (if (ndc k).1 = 0 then ((ndc k).2 + 1, 0) else ((ndc k).1 - 1, (ndc k).2 + 1)).2 = k + 1
    by_cases e : (ndc k).1 = 0
    · rw [if_pos e]
      rw [e] at ih
      show ncol ((ndc k).2 + 1) 0 = k + 1
      unfold ncol at ih ⊢
      rw [Nat.zero_add] at ih
      rw [Nat.add_zero, nT_s]
      omega
    · rw [if_neg e]
      show ncol ((ndc k).1 - 1) ((ndc k).2 + 1) = k + 1
      unfold ncol at ih ⊢
      rw [show (ndc k).1 - 1 + ((ndc k).2 + 1) = (ndc k).1 + (ndc k).2 by omega]
      omega
theorem ndc_ncol (i j : Nat) : ndc (ncol i j) = (i, j) := by
  obtain ⟨a, b⟩ := ncol_inj (ncol_ndc (ncol i j))
  exact Prod.ext a b
theorem ndc_dg {k d : Nat} (h : k < nT d) : (ndc k).1 + (ndc k).2 < d := by
  refine Classical.byContradiction fun q => ?_
  have := ncol_ge (i := (ndc k).1) (j := (ndc k).2) (d := d) (by omega)
  rw [ncol_ndc] at this
  omega
theorem nT_9 : nT 9 = 45 ∧ nT 5 = 15 ∧ nT 13 = 91 ∧ nT 17 = 153 ∧ nT 25 = 325 := by decide
/-- a line of the class -/
theorem zsc_sp (l : Nat → Int) (k : Nat) (x : Int) (q : Nat) : zsc l k x q = if q = k ∧ k < 94 ∧ x ≠ 0 then x else l q := by
  unfold zsc
  by_cases e : k < 94 ∧ x ≠ 0
  · rw [if_pos (by omega), Int.toNat_natCast]
    unfold zup
    by_cases z : q = k
    · rw [if_pos z, if_pos ⟨z, e.1, e.2⟩]
    · rw [if_neg z, if_neg (fun y => z y.1)]
  · rw [if_neg (fun y => e ⟨by omega, y.2.2⟩), if_neg (fun y => e y.2)]
theorem zline_sp (d : Nat → Int) (r u : Nat) (hru : r + u ≤ 8) (k : Nat) : zline d r u k = if r ≤ (ndc k).1 ∧ u ≤ (ndc k).2 ∧ (ndc k).1 - r + ((ndc k).2 - u) ≤ 4 then d (5 * ((ndc k).1 - r) + ((ndc k).2 - u)) else 0 := by
  obtain ⟨A, hA⟩ : ∃ A, A = (ndc k).1 := ⟨_, rfl⟩
  obtain ⟨B, hB⟩ : ∃ B, B = (ndc k).2 := ⟨_, rfl⟩
  have ek : k = ncol A B := by rw [hA, hB, ncol_ndc]
  rw [← hA, ← hB]
  have key : ∀ i j : Nat, i + j ≤ 4 → ∀ l : Nat → Int, zline_in d r u i j l k = if i + r = A ∧ j + u = B ∧ d (5 * i + j) ≠ 0 then d (5 * i + j) else l k := fun i j hij l => by
    unfold zline_in
    have hc : ncol (i + r) (j + u) < 94 := by
      have := ncol_lt (i := i + r) (j := j + u) (d := 13) (by omega)
      have := nT_9.2.2.1
      omega
    rw [show zcol ((i : Int) + (r : Int)) ((j : Int) + (u : Int)) = ((ncol (i + r) (j + u) : Nat) : Int) by rw [← zcol_n]; simp, zatN hij, zsc_sp]
    by_cases e : i + r = A ∧ j + u = B ∧ d (5 * i + j) ≠ 0
    · rw [if_pos e, if_pos ⟨by rw [ek, e.1, e.2.1], hc, e.2.2⟩]
    · rw [if_neg e, if_neg (fun z => by
        have z1 := ncol_inj (ek.symm.trans z.1)
        exact e ⟨z1.1.symm, z1.2.symm, z.2.2⟩)]
  have h : (fun (n : Nat) (l : Nat → Int) => l k = if r ≤ A ∧ u ≤ B ∧ A - r < n ∧ (A - r) + (B - u) ≤ 4 then d (5 * (A - r) + (B - u)) else 0) 5 (zline d r u) := by
    unfold zline
    refine zfor_ix (I := fun (n : Nat) (l : Nat → Int) => l k = if r ≤ A ∧ u ≤ B ∧ A - r < n ∧ (A - r) + (B - u) ≤ 4 then d (5 * (A - r) + (B - u)) else 0) (by rw [if_neg (by omega)]) 5 (fun i l hi hl => ?_)
    have h2 : (fun (n : Nat) (m : Nat → Int) => m k = if r ≤ A ∧ u ≤ B ∧ (A - r < i ∧ (A - r) + (B - u) ≤ 4 ∨ A - r = i ∧ B - u < n) then d (5 * (A - r) + (B - u)) else 0) (4 - i + 1) (zfor (zline_in d r u i) 0 l (4 - i + 1)) := by
      refine zfor_ix (I := fun (n : Nat) (m : Nat → Int) => m k = if r ≤ A ∧ u ≤ B ∧ (A - r < i ∧ (A - r) + (B - u) ≤ 4 ∨ A - r = i ∧ B - u < n) then d (5 * (A - r) + (B - u)) else 0) ?_ (4 - i + 1) (fun j m hj hm => ?_)
      · rw [hl]
        by_cases e : r ≤ A ∧ u ≤ B ∧ A - r < i ∧ (A - r) + (B - u) ≤ 4
        · rw [if_pos e, if_pos (by omega)]
        · rw [if_neg e, if_neg (by omega)]
      · rw [show 0 + (j : Int) = (j : Int) by omega, key i j (by omega), hm]
        by_cases e : i + r = A ∧ j + u = B
        · have e1 : A - r = i := by omega
          have e2 : B - u = j := by omega
          rw [if_pos (show r ≤ A ∧ u ≤ B ∧ (A - r < i ∧ (A - r) + (B - u) ≤ 4 ∨ A - r = i ∧ B - u < j + 1) by omega), e1, e2]
          by_cases z : d (5 * i + j) ≠ 0
          · rw [if_pos ⟨e.1, e.2, z⟩]
          · rw [if_neg (fun y => z y.2.2), Classical.byContradiction z]
            split <;> rfl
        · rw [if_neg (fun y => e ⟨y.1, y.2.1⟩)]
          by_cases z : r ≤ A ∧ u ≤ B ∧ (A - r < i ∧ (A - r) + (B - u) ≤ 4 ∨ A - r = i ∧ B - u < j)
          · rw [if_pos z, if_pos (by omega)]
          · rw [if_neg z, if_neg (by omega)]
    have e : zline_out d r u (0 + (i : Int)) l = zfor (zline_in d r u i) 0 l (4 - i + 1) := by
      rw [show 0 + (i : Int) = (i : Int) by omega]
      show zfor (zline_in d r u i) 0 l (4 - (i : Int) + 1 - 0).toNat = _
      rw [show (4 - (i : Int) + 1 - 0).toNat = 4 - i + 1 by omega]
    rw [e, h2]
    by_cases z : r ≤ A ∧ u ≤ B ∧ (A - r < i ∧ (A - r) + (B - u) ≤ 4 ∨ A - r = i ∧ B - u < 4 - i + 1)
    · rw [if_pos z, if_pos (by omega)]
    · rw [if_neg z, if_neg (by omega)]
  rw [h]
  by_cases e : r ≤ A ∧ u ≤ B ∧ A - r + (B - u) ≤ 4
  · rw [if_pos e, if_pos (by omega)]
  · rw [if_neg e, if_neg (by omega)]
theorem zline_K {K : Type} [Lean.Grind.CommRing K] {p : Int} {φ : Int → K} (h : zKp K p φ) (d : Nat → Int) (r u : Nat) (hru : r + u ≤ 8) (k : Nat) : φ (zline d r u k) = kc_mul (kc_t 1 r u) (zq φ d) (ndc k).1 (ndc k).2 := by
  rw [zline_sp d r u hru, kc_t_mul]
  by_cases e : r ≤ (ndc k).1 ∧ u ≤ (ndc k).2
  · rw [if_pos e]
    by_cases z : (ndc k).1 - r + ((ndc k).2 - u) ≤ 4
    · rw [if_pos ⟨e.1, e.2, z⟩, zq_t z, ka_om]
    · rw [if_neg (fun y => z y.2.2), zq_f z, h.z, ka_mz]
  · rw [if_neg (fun y => e ⟨y.1, y.2.1⟩), if_neg e, h.z]
end ZEc
