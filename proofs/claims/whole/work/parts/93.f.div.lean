section ZFf
/-- numbers laid into a grid below a DEGREE -/
theorem zm_triD {S : zS2} {p : Int} {g D : Nat} {v : Nat → Nat → Int} {so : Int → zS2 → zS2} {si : Int → Int → zS2 → zS2} (hD : D ≤ 5) (hS : S 0 10 = p) (ho : ∀ (i : Nat) (X : zS2), i < D → so i X = zfor (si i) 0 X (D - i)) (hi : ∀ (i j : Nat) (X : zS2), i + j < D → X 0 10 = p → (∀ k q : Nat, k ≠ 3 → X k q = S k q) → X 3 (25 * g + 5 * i + j) = S 3 (25 * g + 5 * i + j) → si i j X = za X 3 (25 * g + 5 * i + j) (v i j % p)) : (∀ k q : Nat, k ≠ 3 → (zfor so 0 S D) k q = S k q) ∧ (∀ q : Nat, ¬ (25 * g ≤ q ∧ q < 25 * g + 25) → (zfor so 0 S D) 3 q = S 3 q) ∧ ∀ A B : Nat, A < 5 → B < 5 → (zfor so 0 S D) 3 (25 * g + 5 * A + B) = if A + B < D then v A B % p else S 3 (25 * g + 5 * A + B) := by
  have h : (fun (n : Nat) (X : zS2) => (∀ k q : Nat, k ≠ 3 → X k q = S k q) ∧ (∀ q : Nat, ¬ (25 * g ≤ q ∧ q < 25 * g + 25) → X 3 q = S 3 q) ∧ ∀ A B : Nat, A < 5 → B < 5 → X 3 (25 * g + 5 * A + B) = if A < n ∧ A + B < D then v A B % p else S 3 (25 * g + 5 * A + B)) D (zfor so 0 S D) := by
    refine zfor_ix (I := fun (n : Nat) (X : zS2) => (∀ k q : Nat, k ≠ 3 → X k q = S k q) ∧ (∀ q : Nat, ¬ (25 * g ≤ q ∧ q < 25 * g + 25) → X 3 q = S 3 q) ∧ ∀ A B : Nat, A < 5 → B < 5 → X 3 (25 * g + 5 * A + B) = if A < n ∧ A + B < D then v A B % p else S 3 (25 * g + 5 * A + B)) ⟨fun _ _ _ => rfl, fun _ _ => rfl, fun A B _ _ => by rw [if_neg (by omega)]⟩ D (fun i X hi5 hX => ?_)
    rw [show 0 + (i : Int) = (i : Int) by omega, ho i X hi5]
    have h2 : (fun (n : Nat) (Y : zS2) => (∀ k q : Nat, k ≠ 3 → Y k q = S k q) ∧ (∀ q : Nat, ¬ (25 * g ≤ q ∧ q < 25 * g + 25) → Y 3 q = S 3 q) ∧ ∀ A B : Nat, A < 5 → B < 5 → Y 3 (25 * g + 5 * A + B) = if (A < i ∧ A + B < D) ∨ (A = i ∧ B < n) then v A B % p else S 3 (25 * g + 5 * A + B)) (D - i) (zfor (si i) 0 X (D - i)) := by
      refine zfor_ix (I := fun (n : Nat) (Y : zS2) => (∀ k q : Nat, k ≠ 3 → Y k q = S k q) ∧ (∀ q : Nat, ¬ (25 * g ≤ q ∧ q < 25 * g + 25) → Y 3 q = S 3 q) ∧ ∀ A B : Nat, A < 5 → B < 5 → Y 3 (25 * g + 5 * A + B) = if (A < i ∧ A + B < D) ∨ (A = i ∧ B < n) then v A B % p else S 3 (25 * g + 5 * A + B)) ⟨hX.1, hX.2.1, fun A B hA hB => ?_⟩ (D - i) (fun j Y hj hY => ?_)
      · rw [hX.2.2 A B hA hB]
        by_cases q : A < i ∧ A + B < D
        · rw [if_pos q, if_pos (by omega)]
        · rw [if_neg q, if_neg (by omega)]
      · have e0 := hY.2.2 i j (by omega) (by omega)
        rw [if_neg (by omega)] at e0
        rw [show 0 + (j : Int) = (j : Int) by omega, hi i j Y (by omega) (by rw [hY.1 0 10 (by decide), hS]) hY.1 e0]
        refine ⟨fun k q hk => by rw [za_ne (by omega)]; exact hY.1 k q hk, fun q hq => by rw [za_ne (by omega)]; exact hY.2.1 q hq, fun A B hA hB => ?_⟩
        by_cases e : A = i ∧ B = j
        · rw [e.1, e.2, za_same, if_pos (by omega)]
        · rw [za_ne (by omega), hY.2.2 A B hA hB]
          by_cases q : (A < i ∧ A + B < D) ∨ (A = i ∧ B < j)
          · rw [if_pos q, if_pos (by omega)]
          · rw [if_neg q, if_neg (by omega)]
    refine ⟨h2.1, h2.2.1, fun A B hA hB => ?_⟩
    rw [h2.2.2 A B hA hB]
    by_cases q : (A < i ∧ A + B < D) ∨ (A = i ∧ B < D - i)
    · rw [if_pos q, if_pos (by omega)]
    · rw [if_neg q, if_neg (by omega)]
  refine ⟨h.1, h.2.1, fun A B hA hB => ?_⟩
  rw [h.2.2 A B hA hB]
  by_cases q : A + B < D
  · rw [if_pos q, if_pos (by omega)]
  · rw [if_neg q, if_neg (by omega)]
/-- the DEGREE of a grid -/
theorem zm_degG (S : zS2) (g : Nat) : zm_degreeOf S g = ztop (zG S g) := by
  unfold zm_degreeOf
  rw [ztop_eq, zlet_v]
  refine zfor_congr _ (fun i n h1 h2 => ?_)
  have h3 : i < 5 := h2
  obtain ⟨a, rfl⟩ : ∃ a : Nat, i = a := ⟨i.toNat, by omega⟩
  unfold zm_degreeOf_L4
  dsimp only
  rw [zlet_v]
  unfold ztop_out
  refine zfor_congr _ (fun j t h4 h5 => ?_)
  have h6 : j < 5 - (a : Int) := by omega
  obtain ⟨b, rfl⟩ : ∃ b : Nat, j = b := ⟨j.toNat, by omega⟩
  unfold zm_degreeOf_L12
  dsimp only
  rw [zlet_v, zM_cell, zG_at S g a b]
  unfold ztop_in
  rw [show ((a : Int) * 5 + (b : Int)).toNat = 5 * a + b by omega]
  by_cases e : zG S g (5 * a + b) = 0
  · rw [if_pos e]
    simp [e]
  · rw [if_neg e]
    by_cases e2 : (a : Int) + b ≤ t
    · rw [if_pos e2]; simp [e]; omega
    · rw [if_neg e2]; simp [e]; omega
theorem kc_canc {K : Type} [Lean.Grind.CommRing K] (hK : ka_F K) {A B w : Nat → Nat → K} (pA : kc_pl A) (pB : kc_pl B) {nw : Nat} (w1 : ∀ i j, nw < i + j → w i j = 0) (w2 : ∃ i j, i + j = nw ∧ w i j ≠ 0) (e : kc_mul A w = kc_mul B w) : A = B := by
  have pD : kc_pl (fun i j => A i j + (-1) * B i j) := by
    obtain ⟨n, hn⟩ := pA
    obtain ⟨m, hm⟩ := pB
    refine ⟨n + m, fun i j hij => ?_⟩
    show A i j + (-1) * B i j = 0
    rw [hn i j (by omega), hm i j (by omega), ka_mz, ka_az]
  have z : kc_mul (fun i j => A i j + (-1) * B i j) w = fun _ _ => 0 := by
    rw [kc_mul_ac, e]
    funext i j
    show kc_mul B w i j + (-1) * kc_mul B w i j = 0
    generalize kc_mul B w i j = x
    grind
  refine funext fun i => funext fun j => Classical.byContradiction fun q => ?_
  obtain ⟨nd, d1, d2⟩ := kc_ed pD ⟨i, j, fun y => q (by
    have y2 : A i j + (-1) * B i j = 0 := y
    generalize A i j = a at y2 ⊢
    generalize B i j = b at y2 ⊢
    grind)⟩
  obtain ⟨x, y, _, h2⟩ := kc_exact hK d1 w1 d2 w2
  exact h2 (congrFun (congrFun z x) y)
/-- the column of the POLYNOMIAL that is divided -/
theorem zm_colF {S : zS2} {p : Int} {a N : Nat} (hS : S 0 10 = p) (hp : 0 < p) (hN : N < 30) (hc : zMc S p) : zMf S (zfor (zm_dividesBy_L22 a N) 0 S 5) ∧ zMc (zfor (zm_dividesBy_L22 a N) 0 S 5) p ∧ ∀ t c : Nat, t < 45 → c < 30 → zMx (zfor (zm_dividesBy_L22 a N) 0 S 5) t c = if c = N ∧ t < 15 then (-(zG S a (5 * (ndc t).1 + (ndc t).2))) % p else zMx S t c := by
  have key : ∀ t c : Nat, t < 45 → c < 30 → (fun (n : Nat) (X : zS2) => (zMf S X ∧ zMc X p) ∧ zMx X t c = if c = N ∧ t < 15 ∧ (ndc t).1 < n then (-(zG S a (5 * (ndc t).1 + (ndc t).2))) % p else zMx S t c) 5 (zfor (zm_dividesBy_L22 a N) 0 S 5) := by
    intro t c ht hc30
    have B8 : t < 15 ↔ (ndc t).1 + (ndc t).2 < 5 := by
      constructor
      · intro q
        exact ndc_dg (d := 5) (by rw [nT_9.2.1]; exact q)
      · intro q
        have := ncol_lt (i := (ndc t).1) (j := (ndc t).2) (d := 5) q
        rw [nT_9.2.1, ncol_ndc] at this
        exact this
    refine zfor_ix (I := fun (n : Nat) (X : zS2) => (zMf S X ∧ zMc X p) ∧ zMx X t c = if c = N ∧ t < 15 ∧ (ndc t).1 < n then (-(zG S a (5 * (ndc t).1 + (ndc t).2))) % p else zMx S t c) ⟨⟨fun _ _ _ => rfl, hc⟩, by rw [if_neg (by omega)]⟩ 5 (fun i X hi hX => ?_)
    rw [show 0 + (i : Int) = (i : Int) by omega]
    have e1 : zm_dividesBy_L22 a N i X = zfor (zm_dividesBy_L31 a N i) 0 X (5 - i) := by
      unfold zm_dividesBy_L22
      dsimp only
      rw [zlet_v, show ((4 - (i : Int)) + 1 - 0).toNat = 5 - i by omega]
    rw [e1]
    have h2 : (fun (n : Nat) (Y : zS2) => (zMf S Y ∧ zMc Y p) ∧ zMx Y t c = if c = N ∧ t < 15 ∧ ((ndc t).1 < i ∨ ((ndc t).1 = i ∧ (ndc t).2 < n)) then (-(zG S a (5 * (ndc t).1 + (ndc t).2))) % p else zMx S t c) (5 - i) (zfor (zm_dividesBy_L31 a N i) 0 X (5 - i)) := by
      refine zfor_ix (I := fun (n : Nat) (Y : zS2) => (zMf S Y ∧ zMc Y p) ∧ zMx Y t c = if c = N ∧ t < 15 ∧ ((ndc t).1 < i ∨ ((ndc t).1 = i ∧ (ndc t).2 < n)) then (-(zG S a (5 * (ndc t).1 + (ndc t).2))) % p else zMx S t c) ⟨hX.1, ?_⟩ (5 - i) (fun j Y hj hY => ?_)
      · rw [hX.2]
        by_cases q : c = N ∧ t < 15 ∧ (ndc t).1 < i
        · rw [if_pos q, if_pos ⟨q.1, q.2.1, Or.inl q.2.2⟩]
        · rw [if_neg q, if_neg (by omega)]
      · rw [show 0 + (j : Int) = (j : Int) by omega]
        obtain ⟨R, hR⟩ : ∃ R, R = ncol i j := ⟨_, rfl⟩
        have R15 : R < 15 := by
          rw [hR]
          have := ncol_lt (i := i) (j := j) (d := 5) (by omega)
          rw [nT_9.2.1] at this
          exact this
        have y10 : Y 0 10 = p := by rw [hY.1.1 0 10 (by decide), hS]
        have cell : zm_cell Y a i j = zG S a (5 * i + j) := by
          rw [zM_cell, hY.1.1 3 _ (by decide)]
          exact zG_at S a i j
        have e4 : zm_dividesBy_L31 a N i j Y = za Y 14 (30 * R + N) ((-(zG S a (5 * i + j))) % p) := by
          unfold zm_dividesBy_L31
          dsimp only
          rw [zlet_v, zlet_v, zlet_v, zlet_v, zm_term_n, ← hR, show (30 * (R : Int) + (N : Int)).toNat = 30 * R + N by omega, cell, zB_mod y10 hp]
        rw [e4]
        have m0 : 0 ≤ (-(zG S a (5 * i + j))) % p ∧ (-(zG S a (5 * i + j))) % p < p := ⟨Int.emod_nonneg _ (by omega), Int.emod_lt_of_pos _ hp⟩
        refine ⟨⟨fun x q hx => by rw [za_ne (by omega)]; exact hY.1.1 x q hx, fun r k hr hk => ?_⟩, ?_⟩
        · by_cases q : r = R ∧ k = N
          · rw [q.1, q.2]
            have : zMx (za Y 14 (30 * R + N) ((-(zG S a (5 * i + j))) % p)) R N = (-(zG S a (5 * i + j))) % p := za_same
            rw [this]
            exact m0
          · have : zMx (za Y 14 (30 * R + N) ((-(zG S a (5 * i + j))) % p)) r k = zMx Y r k := za_ne (by omega)
            rw [this]
            exact hY.1.2 r k hr hk
        · have iffR : t = R ↔ ((ndc t).1 = i ∧ (ndc t).2 = j) := by
            constructor
            · intro q
              rw [q, hR, ndc_ncol]
              exact ⟨rfl, rfl⟩
            · intro q
              rw [hR, ← q.1, ← q.2, ncol_ndc]
          by_cases q : t = R ∧ c = N
          · have : zMx (za Y 14 (30 * R + N) ((-(zG S a (5 * i + j))) % p)) t c = (-(zG S a (5 * i + j))) % p := by rw [q.1, q.2]; exact za_same
            have q1 := iffR.1 q.1
            rw [this, if_pos ⟨q.2, by omega, Or.inr ⟨q1.1, by omega⟩⟩, q1.1, q1.2]
          · have : zMx (za Y 14 (30 * R + N) ((-(zG S a (5 * i + j))) % p)) t c = zMx Y t c := za_ne (by omega)
            rw [this, hY.2]
            by_cases y : c = N ∧ t < 15 ∧ ((ndc t).1 < i ∨ ((ndc t).1 = i ∧ (ndc t).2 < j))
            · rw [if_pos y, if_pos ⟨y.1, y.2.1, by omega⟩]
            · rw [if_neg y, if_neg (fun z => by
                by_cases w : (ndc t).1 = i ∧ (ndc t).2 = j
                · exact q ⟨iffR.2 w, z.1⟩
                · exact y ⟨z.1, z.2.1, by omega⟩)]
    refine ⟨h2.1, ?_⟩
    rw [h2.2]
    by_cases q : c = N ∧ t < 15 ∧ (ndc t).1 < i + 1
    · have := B8.1 q.2.1
      rw [if_pos q, if_pos ⟨q.1, q.2.1, by omega⟩]
    · rw [if_neg q, if_neg (fun z => q ⟨z.1, z.2.1, by omega⟩)]
  refine ⟨(key 0 0 (by omega) (by omega)).1.1, (key 0 0 (by omega) (by omega)).1.2, fun t c ht hc30 => ?_⟩
  rw [(key t c ht hc30).2]
  by_cases q : c = N ∧ t < 15
  · have := ndc_dg (k := t) (d := 5) (by rw [nT_9.2.1]; exact q.2)
    rw [if_pos ⟨q.1, q.2, by omega⟩, if_pos q]
  · rw [if_neg q, if_neg (fun z => q ⟨z.1, z.2.1⟩)]
theorem zm_divW {k : Nat} : ∀ (fu i : Nat) (S : zS2), i ≤ k + 1 → k + 1 - i < fu → (zm_dividesBy_W98 k 1 fu i (zfor (fun (i : Int) (X : zS2) => zfor (zm_dividesBy_L112 i) 0 X (((k : Int) - i) + 1 - 0).toNat) 0 S i)).2 = zfor (fun (i : Int) (X : zS2) => zfor (zm_dividesBy_L112 i) 0 X (((k : Int) - i) + 1 - 0).toNat) 0 S (k + 1)
  | 0, i, S, h1, h2 => by omega
  | fu + 1, i, S, h1, h2 => by
    by_cases q : k < i
    · simp only [zm_dividesBy_W98]
      rw [if_pos (by omega), show i = k + 1 by omega]
    · simp only [zm_dividesBy_W98]
      rw [if_neg (by omega), if_neg (by decide), zlet_v]
      have e := zm_divW (k := k) fu (i + 1) S (by omega) (by omega)
      rw [show ((i + 1 : Nat) : Int) = (i : Int) + 1 by omega] at e
      rw [← e]
      have e2 : zfor (fun (i : Int) (X : zS2) => zfor (zm_dividesBy_L112 i) 0 X (((k : Int) - i) + 1 - 0).toNat) 0 S (i + 1) = zfor (zm_dividesBy_L112 i) 0 (zfor (fun (i : Int) (X : zS2) => zfor (zm_dividesBy_L112 i) 0 X (((k : Int) - i) + 1 - 0).toNat) 0 S i) (((k : Int) - i) + 1 - 0).toNat := by
        have e3 : zfor (fun (i : Int) (X : zS2) => zfor (zm_dividesBy_L112 i) 0 X (((k : Int) - i) + 1 - 0).toNat) 0 S (i + 1) = zfor (zm_dividesBy_L112 (0 + (i : Int))) 0 (zfor (fun (i : Int) (X : zS2) => zfor (zm_dividesBy_L112 i) 0 X (((k : Int) - i) + 1 - 0).toNat) 0 S i) (((k : Int) - (0 + (i : Int))) + 1 - 0).toNat := rfl
        rw [e3, show 0 + (i : Int) = (i : Int) by omega]
      rw [e2]
end ZFf
