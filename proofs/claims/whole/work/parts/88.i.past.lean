section ZMn
theorem zfor_fill {S : zS2} {step : Int → zS2 → zS2} {r base : Nat} {g : Nat → Int} : ∀ n : Nat, (∀ (k : Nat) (x : zS2), k < n → (∀ a i : Nat, x a i = if a = r ∧ base ≤ i ∧ i < base + k then g (i - base) else S a i) → step (0 + (k : Int)) x = za x r (base + k) (g k)) → ∀ a i : Nat, (zfor step 0 S n) a i = if a = r ∧ base ≤ i ∧ i < base + n then g (i - base) else S a i
  | 0, _, a, i => by rw [if_neg (by omega)]; rfl
  | n + 1, h, a, i => by
    have ih := zfor_fill n (fun k x hk hx => h k x (by omega) hx)
    show (step (0 + (n : Int)) (zfor step 0 S n)) a i = _
    rw [h n _ (by omega) ih]
    by_cases q : a = r ∧ i = base + n
    · rw [q.1, q.2, za_same, if_pos (by omega), show base + n - base = n by omega]
    · rw [za_ne q, ih]
      by_cases q2 : a = r ∧ base ≤ i ∧ i < base + n
      · rw [if_pos q2, if_pos (by omega)]
      · rw [if_neg q2, if_neg (by omega)]
theorem zm_copies_sp (S : zS2) (to fr : Nat) : ∀ a i : Nat, (zm_copies S to fr) a i = if a = 3 ∧ 25 * to ≤ i ∧ i < 25 * to + 25 then S 3 (25 * fr + (i - 25 * to)) else S a i := by
  show ∀ a i : Nat, (zfor (zm_copies_L2 to fr) 0 S 25) a i = _
  by_cases e : to = fr
  · intro a i
    rw [zfor_fill (r := 3) (base := 25 * to) (g := fun k => S 3 (25 * fr + k)) 25 (fun k x hk hx => by
      show za x 3 ((25 * (to : Int)) + (0 + (k : Int))).toNat (x 3 (((25 * (fr : Int)) + (0 + (k : Int))).toNat)) = _
      rw [show ((25 * (to : Int)) + (0 + (k : Int))).toNat = 25 * to + k by omega, show ((25 * (fr : Int)) + (0 + (k : Int))).toNat = 25 * fr + k by omega, hx 3 (25 * fr + k), if_neg (by omega)])]
  · intro a i
    rw [zfor_fill (r := 3) (base := 25 * to) (g := fun k => S 3 (25 * fr + k)) 25 (fun k x hk hx => by
      show za x 3 ((25 * (to : Int)) + (0 + (k : Int))).toNat (x 3 (((25 * (fr : Int)) + (0 + (k : Int))).toNat)) = _
      rw [show ((25 * (to : Int)) + (0 + (k : Int))).toNat = 25 * to + k by omega, show ((25 * (fr : Int)) + (0 + (k : Int))).toNat = 25 * fr + k by omega, hx 3 (25 * fr + k), if_neg (by omega)])]
/-- where the k-th number of a kept one comes from -/
def zkp (S : zS2) (q : Nat) : Int := if q = 0 then S 0 13 else if q < 7 then S 5 (q - 1) else S 3 (q - 7)
theorem zm_keeps_sp (S : zS2) (u : Nat) (hu : S 0 35 = u) (hu2 : u ≤ 20) : ∃ v : Nat, v = (if u = 20 then 19 else u) ∧ (zm_keeps S) 0 35 = ((v + 1 : Nat) : Int) ∧ (∀ a i : Nat, a ≠ 20 → ¬ (a = 0 ∧ i = 35) → (zm_keeps S) a i = S a i) ∧ (∀ i : Nat, i < 157 * v → (zm_keeps S) 20 i = S 20 (i + (if u = 20 then 157 else 0))) ∧ ∀ q : Nat, q < 157 → (zm_keeps S) 20 (157 * v + q) = zkp S q := by
  obtain ⟨v, hv⟩ : ∃ v : Nat, v = (if u = 20 then 19 else u) := ⟨_, rfl⟩
  refine ⟨v, hv, ?_⟩
  -- the shift
  obtain ⟨T, hT⟩ : ∃ T, T = zm_keeps_J6 S := ⟨_, rfl⟩
  have t1 : T 0 35 = v ∧ (∀ a i : Nat, a ≠ 20 → ¬ (a = 0 ∧ i = 35) → T a i = S a i) ∧ ∀ i : Nat, i < 157 * v → T 20 i = S 20 (i + (if u = 20 then 157 else 0)) := by
    by_cases e : u = 20
    · have eT : T = zfor zm_keeps_L21 0 (za S 0 35 19) (157 * 19) := by
        rw [hT]
        unfold zm_keeps_J6
        rw [if_pos (by rw [hu, e]; rfl)]
        show zfor zm_keeps_L21 0 (za S 0 35 (S 0 35 - 1)) (((157 * ((za S 0 35 (S 0 35 - 1)) 0 35) - 1) + 1 - 0).toNat) = _
        rw [za_same, show S 0 35 - 1 = 19 by omega]
        rfl
      have f := zfor_fill (S := za S 0 35 19) (step := zm_keeps_L21) (r := 20) (base := 0) (g := fun k => S 20 (k + 157)) (157 * 19) (fun k x hk hx => by
        show za x 20 ((0 + (k : Int)).toNat) (x 20 (((0 + (k : Int)) + 157).toNat)) = _
        rw [show (0 + (k : Int)).toNat = 0 + k by omega, show ((0 + (k : Int)) + 157).toNat = k + 157 by omega, hx 20 (k + 157), if_neg (by omega), za_ne (by omega)])
      rw [if_pos e] at hv
      rw [eT, hv]
      refine ⟨?_, fun a i h1 h2 => ?_, fun i hi => ?_⟩
      · rw [f, if_neg (by omega), za_same]; rfl
      · rw [f, if_neg (by omega), za_ne h2]
      · rw [f, if_pos (by omega), if_pos e]; rfl
    · have eT : T = S := by
        rw [hT]
        unfold zm_keeps_J6
        rw [if_neg (by rw [hu]; omega)]
      rw [if_neg e] at hv
      rw [eT, hv]
      refine ⟨hu, fun a i _ _ => rfl, fun i hi => ?_⟩
      rw [if_neg e]; rfl
  obtain ⟨a1, a2, a3⟩ := t1
  have ek : zm_keeps S = za (zfor (zm_keeps_L106 T) 0 (zfor (zm_keeps_L76 T) 0 (za T 20 ((157 * (T 0 35)).toNat) (T 0 13)) 6) 150) 0 35 (((zfor (zm_keeps_L106 T) 0 (zfor (zm_keeps_L76 T) 0 (za T 20 ((157 * (T 0 35)).toNat) (T 0 13)) 6) 150) 0 35) + 1) := by
    rw [hT]
    rfl
  obtain ⟨U, hU⟩ : ∃ U, U = za T 20 ((157 * (T 0 35)).toNat) (T 0 13) := ⟨_, rfl⟩
  have hU1 : U = za T 20 (157 * v) (T 0 13) := by rw [hU, a1, show (157 * (v : Int)).toNat = 157 * v by omega]
  obtain ⟨V, hV⟩ : ∃ V, V = zfor (zm_keeps_L76 T) 0 U 6 := ⟨_, rfl⟩
  obtain ⟨W, hW⟩ : ∃ W, W = zfor (zm_keeps_L106 T) 0 V 150 := ⟨_, rfl⟩
  rw [← hU, ← hV, ← hW] at ek
  have fV := zfor_fill (S := U) (step := zm_keeps_L76 T) (r := 20) (base := 157 * v + 1) (g := fun k => U 5 k) 6 (fun k x hk hx => by
    show za x 20 ((((157 * (T 0 35)) + 1) + (0 + (k : Int))).toNat) (x 5 ((0 + (k : Int)).toNat)) = _
    rw [a1, show (((157 * (v : Int)) + 1) + (0 + (k : Int))).toNat = 157 * v + 1 + k by omega, show (0 + (k : Int)).toNat = k by omega, hx 5 k, if_neg (by omega)])
  rw [← hV] at fV
  have fW := zfor_fill (S := V) (step := zm_keeps_L106 T) (r := 20) (base := 157 * v + 7) (g := fun k => V 3 k) 150 (fun k x hk hx => by
    show za x 20 ((((157 * (T 0 35)) + 7) + (0 + (k : Int))).toNat) (x 3 ((0 + (k : Int)).toNat)) = _
    rw [a1, show (((157 * (v : Int)) + 7) + (0 + (k : Int))).toNat = 157 * v + 7 + k by omega, show (0 + (k : Int)).toNat = k by omega, hx 3 k, if_neg (by omega)])
  rw [← hW] at fW
  have o : ∀ a i : Nat, a ≠ 20 → W a i = T a i := fun a i ha => by
    rw [fW, if_neg (by omega), fV, if_neg (by omega), hU1, za_ne (by omega)]
  rw [ek]
  refine ⟨?_, fun a i h1 h2 => ?_, fun i hi => ?_, fun q hq => ?_⟩
  · rw [za_same, o 0 35 (by omega), a1]; omega
  · rw [za_ne h2, o a i h1, a2 a i h1 h2]
  · rw [za_ne (by omega), fW, if_neg (by omega), fV, if_neg (by omega), hU1, za_ne (by omega), a3 i hi]
  · rw [za_ne (by omega), fW]
    unfold zkp
    by_cases q0 : q = 0
    · rw [if_neg (by omega), fV, if_neg (by omega), hU1, q0, Nat.add_zero, za_same, if_pos rfl, a2 0 13 (by omega) (by omega)]
    rw [if_neg q0]
    by_cases q7 : q < 7
    · rw [if_neg (by omega), fV, if_pos (by omega), if_pos q7, hU1, show 157 * v + q - (157 * v + 1) = q - 1 by omega, za_ne (by omega), a2 5 _ (by omega) (by omega)]
    · rw [if_pos (by omega), if_neg q7, show 157 * v + q - (157 * v + 7) = q - 7 by omega, fV, if_neg (by omega), hU1, za_ne (by omega), a2 3 _ (by omega) (by omega)]
theorem zBix_lt {nx : Int} {j : Nat} : zBix nx j < 20 := by unfold zBix; omega
theorem zBix_0 {nx : Int} (h : 0 ≤ nx ∧ nx < 20) : zBix (if nx + 1 < 20 then nx + 1 else 0) 0 = nx.toNat := by
  unfold zBix
  split <;> omega
theorem zBix_s {nx : Int} (h : 0 ≤ nx ∧ nx < 20) (j : Nat) : zBix (if nx + 1 < 20 then nx + 1 else 0) (j + 1) = zBix nx j := by
  unfold zBix
  split <;> omega
theorem zBix_b {nx : Int} (h : 0 ≤ nx ∧ nx < 20) (j : Nat) : zBix (if 0 < nx then nx - 1 else 19) j = zBix nx (j + 1) := by
  unfold zBix
  split <;> omega
theorem zBix_n {nx : Int} (h : 0 ≤ nx ∧ nx < 20) {j : Nat} (hj : j < 19) : zBix nx j ≠ nx.toNat := by
  unfold zBix
  omega
/-- what stood ahead of an ACT is kept in both -/
theorem zB_keep {i : Int} {M : zCt} {S : zS2} (h : zBm i M S) (hC : zCI M) : zBp (zw_keep M) (zm_keeps S) ∧ zBx (zw_keep M) := by
  obtain ⟨⟨_, _, hs, hp⟩, hx⟩ := h
  have hct := hC.ct
  have hnx := hC.nx
  have hn := hC.cn
  obtain ⟨u, hu⟩ : ∃ u : Nat, M.1 0 5 = u := ⟨(M.1 0 5).toNat, by omega⟩
  obtain ⟨v, hv, k1, k2, k3, k4⟩ := zm_keeps_sp S u (by rw [hp.1, hu]) (by omega)
  have m5 : (zw_keep M).1 0 5 = ((v + 1 : Nat) : Int) := by
    show min (M.1 0 5 + 1) 20 = _
    rw [hu, hv]
    split <;> omega
  have m6 : (zw_keep M).1 0 6 = (if M.1 0 6 + 1 < 20 then M.1 0 6 + 1 else 0) := rfl
  have m3 : (zw_keep M).1 0 3 = M.1 0 3 := rfl
  have m4 : (zw_keep M).1 0 4 = M.1 0 4 := rfl
  have m40 : (zw_keep M).1 40 = zset (M.1 40) (M.1 0 6).toNat (M.1 0 3) := rfl
  have m41 : (zw_keep M).1 41 = zset (M.1 41) (M.1 0 6).toNat (M.1 0 4) := rfl
  have ml : (zw_keep M).2.2.1 = zset M.2.2.1 (M.1 0 6).toNat (M.1 3) := rfl
  have mc : (zw_keep M).2.2.2.1 = zset M.2.2.2.1 (M.1 0 6).toNat M.2.1 := rfl
  have m2 : (zw_keep M).2.1 = M.2.1 := rfl
  have nw : ∀ j : Nat, j + 1 < v + 1 → zBix (M.1 0 6) j ≠ (M.1 0 6).toNat := fun j hj => zBix_n hnx (by
    have : v ≤ 19 := by rw [hv]; split <;> omega
    omega)
  have hv20 : ∀ j : Nat, j + 1 < v + 1 → (j : Int) < M.1 0 5 := fun j hj => by
    rw [hu]
    have : v ≤ u := by rw [hv]; split <;> omega
    omega
  constructor
  · refine ⟨by rw [k1, m5], fun j hj => ?_⟩
    rw [m5] at hj
    rw [m6, m5, m3, m40, m41, ml, mc]
    cases j with
    | zero =>
      rw [zBix_0 hnx, zset_self, zset_self, zset_self, zset_self]
      have e0 : 157 * (((v + 1 : Nat) : Int) - 1 - ((0 : Nat) : Int)).toNat = 157 * v := by omega
      rw [e0]
      refine ⟨rfl, ?_, fun c hc => ⟨fun q hq => ?_, fun i hi => ?_, (hs.2.2 c hc).2.2⟩⟩
      · have := k4 0 (by omega)
        rw [Nat.add_zero] at this
        rw [this]
        show S 0 13 = _
        exact hs.2.1
      · have e := k4 (7 + 25 * c + q) (by omega)
        rw [show 157 * v + (7 + 25 * c + q) = 157 * v + 7 + 25 * c + q by omega] at e
        rw [e]
        unfold zkp
        rw [if_neg (by omega), if_neg (by omega), show 7 + 25 * c + q - 7 = 25 * c + q by omega]
        exact (hs.2.2 c hc).1 q hq
      · have e := k4 (1 + c) (by omega)
        rw [show 157 * v + (1 + c) = 157 * v + 1 + c by omega] at e
        rw [e]
        unfold zkp
        rw [if_neg (by omega), if_pos (by omega), show 1 + c - 1 = c by omega]
        exact (hs.2.2 c hc).2.1 i hi
    | succ j =>
      rw [zBix_s hnx]
      have hne := nw j (by omega)
      rw [zset_ne _ _ hne, zset_ne _ _ hne, zset_ne _ _ hne, zset_ne _ _ hne]
      obtain ⟨b1, b2, b3⟩ := hp.2 j (hv20 j (by omega))
      have bl : ∀ q : Nat, q < 157 → (zm_keeps S) 20 (157 * (((v + 1 : Nat) : Int) - 1 - ((j + 1 : Nat) : Int)).toNat + q) = S 20 (157 * (M.1 0 5 - 1 - j).toNat + q) := fun q hq => by
        rw [k3 _ (by omega), hu]
        refine congrArg (S 20) ?_
        by_cases e : u = 20
        · rw [if_pos e] at hv ⊢; omega
        · rw [if_neg e] at hv ⊢; omega
      have bl0 := bl 0 (by omega)
      rw [Nat.add_zero, Nat.add_zero] at bl0
      refine ⟨b1, by rw [bl0]; exact b2, fun c hc => ?_⟩
      have hc6 := (hC.ps (zBix (M.1 0 6) j) zBix_lt).2.1
      obtain ⟨c1, c2, c3⟩ := b3 c hc
      refine ⟨fun q hq => ?_, fun i hi => ?_, c3⟩
      · have e := bl (7 + 25 * c + q) (by omega)
        rw [show ∀ X : Nat, X + (7 + 25 * c + q) = X + 7 + 25 * c + q from fun X => by omega] at e
        rw [show ∀ X : Nat, X + (7 + 25 * c + q) = X + 7 + 25 * c + q from fun X => by omega] at e
        rw [e]; exact c1 q hq
      · have e := bl (1 + c) (by omega)
        rw [show ∀ X : Nat, X + (1 + c) = X + 1 + c from fun X => by omega] at e
        rw [show ∀ X : Nat, X + (1 + c) = X + 1 + c from fun X => by omega] at e
        rw [e]; exact c2 i hi
  · refine ⟨hx.1, hx.2.1, fun j hj c hc => ?_⟩
    rw [m5] at hj
    rw [m6, m41] at hc
    rw [m6, mc]
    cases j with
    | zero =>
      rw [zBix_0 hnx, zset_self] at hc
      rw [zBix_0 hnx, zset_self]
      exact hx.2.1 c hc
    | succ j =>
      rw [zBix_s hnx, zset_ne _ _ (nw j (by omega))] at hc
      rw [zBix_s hnx, zset_ne _ _ (nw j (by omega))]
      exact hx.2.2 j (hv20 j (by omega)) c hc
theorem zm_undo_sp (S : zS2) (u : Nat) (hu : S 0 35 = ((u + 1 : Nat) : Int)) : (zm_undo S).1 = 1 ∧ (zm_undo S).2 0 35 = u ∧ (zm_undo S).2 0 13 = S 20 (157 * u) ∧ (∀ i : Nat, i < 6 → (zm_undo S).2 5 i = S 20 (157 * u + 1 + i)) ∧ (∀ i : Nat, i < 150 → (zm_undo S).2 3 i = S 20 (157 * u + 7 + i)) ∧ ∀ a i : Nat, a ≠ 3 → a ≠ 5 → ¬ (a = 0 ∧ (i = 35 ∨ i = 13)) → (zm_undo S).2 a i = S a i := by
  obtain ⟨T, hT⟩ : ∃ T, T = za S 0 35 (u : Int) := ⟨_, rfl⟩
  obtain ⟨U, hU⟩ : ∃ U, U = za T 0 13 (T 20 ((157 * (T 0 35)).toNat)) := ⟨_, rfl⟩
  have t35 : T 0 35 = u := by rw [hT, za_same]
  have e : zm_undo S = (1, zfor (zm_undo_L74 T) 0 (zfor (zm_undo_L44 T) 0 U 6) 150) := by
    unfold zm_undo
    rw [if_neg (by omega), show S 0 35 - 1 = (u : Int) by omega, hU, hT]
    rfl
  have hU1 : U = za T 0 13 (T 20 (157 * u)) := by rw [hU, t35, show (157 * (u : Int)).toNat = 157 * u by omega]
  obtain ⟨V, hV⟩ : ∃ V, V = zfor (zm_undo_L44 T) 0 U 6 := ⟨_, rfl⟩
  have fV := zfor_fill (S := U) (step := zm_undo_L44 T) (r := 5) (base := 0) (g := fun k => U 20 (157 * u + 1 + k)) 6 (fun k x hk hx => by
    show za x 5 ((0 + (k : Int)).toNat) (x 20 ((((157 * (T 0 35)) + 1) + (0 + (k : Int))).toNat)) = _
    rw [t35, show (((157 * (u : Int)) + 1) + (0 + (k : Int))).toNat = 157 * u + 1 + k by omega, show (0 + (k : Int)).toNat = 0 + k by omega, hx 20 _, if_neg (by omega)])
  rw [← hV] at fV
  have fW := zfor_fill (S := V) (step := zm_undo_L74 T) (r := 3) (base := 0) (g := fun k => V 20 (157 * u + 7 + k)) 150 (fun k x hk hx => by
    show za x 3 ((0 + (k : Int)).toNat) (x 20 ((((157 * (T 0 35)) + 7) + (0 + (k : Int))).toNat)) = _
    rw [t35, show (((157 * (u : Int)) + 7) + (0 + (k : Int))).toNat = 157 * u + 7 + k by omega, show (0 + (k : Int)).toNat = 0 + k by omega, hx 20 _, if_neg (by omega)])
  obtain ⟨Z, hZ⟩ : ∃ Z, Z = zfor (zm_undo_L74 T) 0 V 150 := ⟨_, rfl⟩
  rw [← hZ] at fW
  have hS : ∀ a i : Nat, ¬ (a = 0 ∧ (i = 35 ∨ i = 13)) → U a i = S a i := fun a i h => by
    rw [hU1, za_ne (by omega), hT, za_ne (by omega)]
  rw [e, ← hV, ← hZ]
  refine ⟨rfl, ?_, ?_, fun i hi => ?_, fun i hi => ?_, fun a i h1 h2 h3 => ?_⟩
  · show Z 0 35 = _
    rw [fW, if_neg (by omega), fV, if_neg (by omega), hU1, za_ne (by omega), t35]
  · show Z 0 13 = _
    rw [fW, if_neg (by omega), fV, if_neg (by omega), hU1, za_same, hT, za_ne (by omega)]
  · show Z 5 i = _
    rw [fW, if_neg (by omega), fV, if_pos (by omega), hS _ _ (by omega), Nat.sub_zero]
  · show Z 3 i = _
    rw [fW, if_pos (by omega), fV, if_neg (by omega), hS _ _ (by omega), Nat.sub_zero]
  · show Z a i = _
    rw [fW, if_neg (by omega), fV, if_neg (by omega), hS a i h3]
theorem zfact_32 (L : Nat) : zlK_32 zBm L := by
  intro i M S _ _ hR hC hI
  obtain ⟨⟨ht, hf, hs, hp⟩, hx⟩ := hR
  have hct := hC.ct
  have hnx := hC.nx
  have hn := hC.cn
  by_cases h0 : M.1 0 5 = 0
  · have ec : zc_undo M = (0, zw_ref M 4 ((M.1 1 4) + 1)) := by
      unfold zc_undo zw_undo
      rw [if_pos h0, if_pos h0]
      show (0, zc_refuse M 4) = _
      rw [zB_refuse (by decide)]
      rfl
    have em : zm_undo S = (0, za S 2 4 ((S 2 4) + 1)) := by
      unfold zm_undo
      rw [if_pos (by rw [hp.1]; exact h0)]
      rfl
    rw [ec, em]
    exact ⟨rfl, zBl_ref (i := i + 8) ⟨ht, hf, hs, hp⟩ hC (by decide), zBx_ref hx _ _⟩
  · obtain ⟨u, hu⟩ : ∃ u : Nat, M.1 0 5 = ((u + 1 : Nat) : Int) := ⟨(M.1 0 5 - 1).toNat, by omega⟩
    obtain ⟨s0, s35, s13, s5, s3, so⟩ := zm_undo_sp S u (by rw [hp.1, hu])
    have ec : zc_undo M = (1, zw_back M) := by
      unfold zc_undo zw_undo
      rw [if_neg h0, if_neg h0]
      rfl
    obtain ⟨nx, enx⟩ : ∃ nx, nx = (if 0 < M.1 0 6 then M.1 0 6 - 1 else 19) := ⟨_, rfl⟩
    have ix0 : nx.toNat = zBix (M.1 0 6) 0 := by
      rw [enx]
      unfold zBix
      split <;> omega
    have eb : zw_back M = (zset (za (za (za (za M.1 0 5 (M.1 0 5 - 1)) 0 6 nx) 0 3 (M.1 40 nx.toNat)) 0 4 (M.1 41 nx.toNat)) 3 (M.2.2.1 nx.toNat), M.2.2.2.1 nx.toNat, M.2.2) := by
      rw [enx]; rfl
    have m5 : (zw_back M).1 0 5 = M.1 0 5 - 1 := by rw [eb]; rfl
    have m6 : (zw_back M).1 0 6 = nx := by rw [eb]; rfl
    have m3 : (zw_back M).1 0 3 = M.1 40 nx.toNat := by rw [eb]; rfl
    have m4 : (zw_back M).1 0 4 = M.1 41 nx.toNat := by rw [eb]; rfl
    have ml : (zw_back M).1 3 = M.2.2.1 nx.toNat := by rw [eb]; rfl
    have mo : ∀ a i : Nat, a ≠ 3 → ¬ (a = 0 ∧ 3 ≤ i ∧ i ≤ 6) → (zw_back M).1 a i = M.1 a i := fun a i h1 h2 => by
      rw [eb]
      show zset (za (za (za (za M.1 0 5 (M.1 0 5 - 1)) 0 6 nx) 0 3 (M.1 40 nx.toNat)) 0 4 (M.1 41 nx.toNat)) 3 _ a i = _
      rw [zset_ne _ _ h1, za_ne (by omega), za_ne (by omega), za_ne (by omega), za_ne (by omega)]
    have mc : (zw_back M).2.1 = M.2.2.2.1 nx.toNat := by rw [eb]
    have m2 : (zw_back M).2.2 = M.2.2 := by rw [eb]
    obtain ⟨b1, b2, b3⟩ := hp.2 0 (by omega)
    have eu : (M.1 0 5 - 1 - ((0 : Nat) : Int)).toNat = u := by omega
    rw [eu] at b2 b3
    have hc6 := (hC.ps (zBix (M.1 0 6) 0) zBix_lt).2.1
    rw [ec]
    refine ⟨s0.symm, ⟨⟨?_, fun k hk => ?_⟩, ⟨⟨?_, ?_⟩, fun k hk => ?_⟩, ⟨?_, ?_, fun c hc => ?_⟩, ?_, fun j hj => ?_⟩, ?_, fun c hc => ?_, fun j hj c hc => ?_⟩
    · rw [so 0 1 (by omega) (by omega) (by omega)]
      show _ = (zw_back M).1 0 2
      rw [mo 0 2 (by omega) (by omega)]; exact ht.1
    · have hk2 : (k : Int) < (zw_back M).1 0 2 := hk
      rw [mo 0 2 (by omega) (by omega)] at hk2
      rw [so 1 k (by omega) (by omega) (by omega)]
      show _ = (zw_back M).1 2 k
      rw [mo 2 k (by omega) (by omega)]; exact ht.2 k hk2
    · rw [so 0 3 (by omega) (by omega) (by omega)]
      show _ = (zw_back M).1 0 0
      rw [mo 0 0 (by omega) (by omega)]; exact hf.1.1
    · rw [so 0 4 (by omega) (by omega) (by omega)]
      show _ = (zw_back M).1 0 1
      rw [mo 0 1 (by omega) (by omega)]; exact hf.1.2
    · rw [so 2 k (by omega) (by omega) (by omega)]
      show _ = (zw_back M).1 1 k
      rw [mo 1 k (by omega) (by omega)]; exact hf.2 k hk
    · rw [so 0 10 (by omega) (by omega) (by omega)]
      show _ = (zw_back M).1 0 3
      rw [m3, ix0, b1]; exact hs.1
    · rw [s13]
      show _ = (zw_back M).1 0 4
      rw [m4, ix0]; exact b2
    · have hc2 : (c : Int) < (zw_back M).1 0 4 := hc
      rw [m4, ix0] at hc2
      obtain ⟨c1, c2, c3⟩ := b3 c hc2
      refine ⟨fun j hj => ?_, fun i hi => ?_, ?_⟩
      · rw [s3 _ (by omega)]
        show _ = (zw_back M).2.1 c j
        rw [mc, ix0, ← c1 j hj]
        congr 1
        omega
      · rw [s5 c (by omega)]
        show _ = (zw_back M).1 3 (6 * c + i)
        rw [ml, ix0]; exact c2 i hi
      · show 0 < ztop ((zw_back M).2.1 c)
        rw [mc, ix0]; exact c3
    · rw [s35]
      show _ = (zw_back M).1 0 5
      rw [m5]; omega
    · have hj2 : (j : Int) < (zw_back M).1 0 5 := hj
      rw [m5] at hj2
      show (zw_back M).1 40 (zBix ((zw_back M).1 0 6) j) = (zw_back M).1 0 3 ∧ (zm_undo S).2 20 (157 * ((zw_back M).1 0 5 - 1 - j).toNat) = (zw_back M).1 41 (zBix ((zw_back M).1 0 6) j) ∧ ∀ c : Nat, (c : Int) < (zw_back M).1 41 (zBix ((zw_back M).1 0 6) j) → (∀ q : Nat, q < 25 → (zm_undo S).2 20 (157 * ((zw_back M).1 0 5 - 1 - j).toNat + 7 + 25 * c + q) = (zw_back M).2.2.2.1 (zBix ((zw_back M).1 0 6) j) c q) ∧ (∀ i : Nat, i < 6 → zlt5 ((zm_undo S).2 20 (157 * ((zw_back M).1 0 5 - 1 - j).toNat + 1 + c)) (5 * i) = (zw_back M).2.2.1 (zBix ((zw_back M).1 0 6) j) (6 * c + i)) ∧ 0 < ztop ((zw_back M).2.2.2.1 (zBix ((zw_back M).1 0 6) j) c)
      have e20 : ∀ i : Nat, (zm_undo S).2 20 i = S 20 i := fun i => so 20 i (by omega) (by omega) (by omega)
      have r40 : (zw_back M).1 40 = M.1 40 := funext fun i => mo 40 i (by omega) (by omega)
      have r41 : (zw_back M).1 41 = M.1 41 := funext fun i => mo 41 i (by omega) (by omega)
      simp only [e20]
      rw [m6, enx, zBix_b hnx, r40, r41, m5, m2, m3, ix0, b1]
      obtain ⟨d1, d2, d3⟩ := hp.2 (j + 1) (by omega)
      rw [show (M.1 0 5 - 1 - 1 - (j : Int)).toNat = (M.1 0 5 - 1 - ((j + 1 : Nat) : Int)).toNat by omega]
      exact ⟨d1, d2, d3⟩
    · show zPr ((zw_back M).1 0 3)
      rw [m3, ix0, b1]; exact hx.1
    · have hc2 : (c : Int) < (zw_back M).1 0 4 := hc
      rw [m4, ix0] at hc2
      show zflt ((zw_back M).2.1 c)
      rw [mc, ix0]
      exact hx.2.2 0 (by omega) c hc2
    · have hj2 : (j : Int) < (zw_back M).1 0 5 := hj
      have hc2 : (c : Int) < (zw_back M).1 41 (zBix ((zw_back M).1 0 6) j) := hc
      rw [m5] at hj2
      have r41 : (zw_back M).1 41 = M.1 41 := funext fun i => mo 41 i (by omega) (by omega)
      rw [m6, enx, zBix_b hnx, r41] at hc2
      show zflt ((zw_back M).2.2.2.1 (zBix ((zw_back M).1 0 6) j) c)
      rw [m6, enx, zBix_b hnx, m2]
      exact hx.2.2 (j + 1) (by omega) c hc2
end ZMn
