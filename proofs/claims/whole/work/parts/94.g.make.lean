section ZGg
/-- two loops of which one pass alone lays what stands at a place -/
theorem zfor_hit {σ : Type} {s : σ} {so : Int → σ → σ} {si : Int → Int → σ → σ} (get : σ → Int) (P : σ → Prop) (hP : P s) {X Y : Nat} {v : Int} (ho : ∀ (i : Nat) (x : σ), i < 5 → so i x = zfor (si i) 0 x (5 - i)) (hi : ∀ (i j : Nat) (x : σ), i + j < 5 → P x → P (si i j x) ∧ (¬ (i = X ∧ j = Y) → get (si i j x) = get x) ∧ (i = X ∧ j = Y → get x = get s → get (si i j x) = v)) : P (zfor so 0 s 5) ∧ get (zfor so 0 s 5) = if X + Y ≤ 4 then v else get s := by
  have h : (fun (n : Nat) (x : σ) => P x ∧ get x = if X < n ∧ X + Y ≤ 4 then v else get s) 5 (zfor so 0 s 5) := by
    refine zfor_ix (I := fun (n : Nat) (x : σ) => P x ∧ get x = if X < n ∧ X + Y ≤ 4 then v else get s) ⟨hP, by rw [if_neg (by omega)]⟩ 5 (fun i x hi5 hx => ?_)
    rw [show 0 + (i : Int) = (i : Int) by omega, ho i x hi5]
    have h2 : (fun (n : Nat) (y : σ) => P y ∧ get y = if (X < i ∧ X + Y ≤ 4) ∨ (X = i ∧ Y < n ∧ X + Y ≤ 4) then v else get s) (5 - i) (zfor (si i) 0 x (5 - i)) := by
      refine zfor_ix (I := fun (n : Nat) (y : σ) => P y ∧ get y = if (X < i ∧ X + Y ≤ 4) ∨ (X = i ∧ Y < n ∧ X + Y ≤ 4) then v else get s) ⟨hx.1, ?_⟩ (5 - i) (fun j y hj hy => ?_)
      · rw [hx.2]
        by_cases q : X < i ∧ X + Y ≤ 4
        · rw [if_pos q, if_pos (Or.inl q)]
        · rw [if_neg q, if_neg (by omega)]
      · rw [show 0 + (j : Int) = (j : Int) by omega]
        obtain ⟨a1, a2, a3⟩ := hi i j y (by omega) hy.1
        refine ⟨a1, ?_⟩
        by_cases e : i = X ∧ j = Y
        · have e0 := hy.2
          rw [if_neg (by omega)] at e0
          rw [a3 e e0, if_pos (by omega)]
        · rw [a2 e, hy.2]
          by_cases q : (X < i ∧ X + Y ≤ 4) ∨ (X = i ∧ Y < j ∧ X + Y ≤ 4)
          · rw [if_pos q, if_pos (by omega)]
          · rw [if_neg q, if_neg (by omega)]
    refine ⟨h2.1, ?_⟩
    rw [h2.2]
    by_cases q : (X < i ∧ X + Y ≤ 4) ∨ (X = i ∧ Y < 5 - i ∧ X + Y ≤ 4)
    · rw [if_pos q, if_pos (by omega)]
    · rw [if_neg q, if_neg (by omega)]
  refine ⟨h.1, ?_⟩
  rw [h.2]
  by_cases q : X + Y ≤ 4
  · rw [if_pos q, if_pos (by omega)]
  · rw [if_neg q, if_neg (by omega)]
theorem zder_x {d : Nat → Int} {p : Int} (A B : Nat) (hB : B < 5) : zder d 1 p (5 * A + B) = if A + 1 + B ≤ 4 then d (5 * (A + 1) + B) * ((A + 1 : Nat) : Int) % p else 0 := by
  have z0 : zone 0 (5 * A + B) = 0 := by
    unfold zone
    split <;> rfl
  have h := zfor_hit (s := zone 0) (so := zder_out d 1 p) (si := zder_in d 1 p) (fun c : Nat → Int => c (5 * A + B)) (fun _ => True) trivial (X := A + 1) (Y := B) (v := d (5 * (A + 1) + B) * ((A + 1 : Nat) : Int) % p) (fun i x hi => by
    unfold zder_out
    rw [show (4 - (i : Int) + 1 - 0).toNat = 5 - i by omega]) (fun i j x hij _ => ⟨trivial, fun hne => ?_, fun e hx => ?_⟩)
  · unfold zder
    rw [show (5 - 0 : Int).toNat = 5 from rfl, h.2, z0]
  · unfold zder_in
    rw [if_neg (show ¬ (1 : Int) = 0 by decide), if_neg (show ¬ (1 : Int) = 0 by decide), if_neg (show ¬ (1 : Int) = 0 by decide)]
    by_cases q : zat d i j * (i : Int) % p = 0
    · rw [if_pos q]
    · rw [if_neg q]
      show zput x ((i : Int) - 1) j (zat d i j * (i : Int) % p) (5 * A + B) = x (5 * A + B)
      have i0 : i ≠ 0 := fun z => q (by rw [z]; simp)
      rw [zput_t (by unfold zfits; omega)]
      unfold zup
      rw [if_neg (by omega)]
  · unfold zder_in
    rw [if_neg (show ¬ (1 : Int) = 0 by decide), if_neg (show ¬ (1 : Int) = 0 by decide), if_neg (show ¬ (1 : Int) = 0 by decide), e.1, e.2, zatN (by omega)]
    by_cases q : d (5 * (A + 1) + B) * ((A + 1 : Nat) : Int) % p = 0
    · rw [if_pos q, q]
      have hx' : x (5 * A + B) = zone 0 (5 * A + B) := hx
      rw [hx', z0]
    · rw [if_neg q, zput_t (by unfold zfits; omega)]
      unfold zup
      rw [if_pos (by omega)]
theorem zder_y {d : Nat → Int} {p : Int} (A B : Nat) (hB : B < 5) : zder d 0 p (5 * A + B) = if A + (B + 1) ≤ 4 then d (5 * A + (B + 1)) * ((B + 1 : Nat) : Int) % p else 0 := by
  have z0 : zone 0 (5 * A + B) = 0 := by
    unfold zone
    split <;> rfl
  have h := zfor_hit (s := zone 0) (so := zder_out d 0 p) (si := zder_in d 0 p) (fun c : Nat → Int => c (5 * A + B)) (fun _ => True) trivial (X := A) (Y := B + 1) (v := d (5 * A + (B + 1)) * ((B + 1 : Nat) : Int) % p) (fun i x hi => by
    unfold zder_out
    rw [show (4 - (i : Int) + 1 - 0).toNat = 5 - i by omega]) (fun i j x hij _ => ⟨trivial, fun hne => ?_, fun e hx => ?_⟩)
  · unfold zder
    rw [show (5 - 0 : Int).toNat = 5 from rfl, h.2, z0]
  · unfold zder_in
    rw [if_pos (show (0 : Int) = 0 from rfl), if_pos (show (0 : Int) = 0 from rfl), if_pos (show (0 : Int) = 0 from rfl)]
    by_cases q : zat d i j * (j : Int) % p = 0
    · rw [if_pos q]
    · rw [if_neg q]
      show zput x (i : Int) ((j : Int) - 1) (zat d i j * (j : Int) % p) (5 * A + B) = x (5 * A + B)
      have i0 : j ≠ 0 := fun z => q (by rw [z]; simp)
      rw [zput_t (by unfold zfits; omega)]
      unfold zup
      rw [if_neg (by omega)]
  · unfold zder_in
    rw [if_pos (show (0 : Int) = 0 from rfl), if_pos (show (0 : Int) = 0 from rfl), if_pos (show (0 : Int) = 0 from rfl), e.1, e.2, zatN (by omega)]
    by_cases q : d (5 * A + (B + 1)) * ((B + 1 : Nat) : Int) % p = 0
    · rw [if_pos q, q]
      have hx' : x (5 * A + B) = zone 0 (5 * A + B) := hx
      rw [hx', z0]
    · rw [if_neg q, zput_t (by unfold zfits; omega)]
      unfold zup
      rw [if_pos (by omega)]
theorem zm_der_sp {S : zS2} {p : Int} {x : Nat} {c : Nat → Int} (b : Int) (hS : S 0 10 = p) (hp : 0 < p) (hx : x < 140) (hc : ∀ i j : Nat, i + j ≤ 4 → S 3 (25 * x + 5 * i + j) = c (5 * i + j)) (h0 : ∀ q : Nat, 25 * 144 ≤ q → q < 25 * 144 + 25 → S 3 q = 0) (A B : Nat) (hA : A < 5) (hB : B < 5) : (∀ k q : Nat, ¬ (k = 3 ∧ 25 * 144 ≤ q ∧ q < 25 * 144 + 25) → (zfor (zm_makesDerivative_L28 x b) 0 S 5) k q = S k q) ∧ zG (zfor (zm_makesDerivative_L28 x b) 0 S 5) 144 (5 * A + B) = if b = 0 then (if A + 1 + B ≤ 4 then c (5 * (A + 1) + B) * ((A + 1 : Nat) : Int) % p else 0) else (if A + (B + 1) ≤ 4 then c (5 * A + (B + 1)) * ((B + 1 : Nat) : Int) % p else 0) := by
  have g0 : S 3 (25 * 144 + 5 * A + B) = 0 := h0 _ (by omega) (by omega)
  have cell : ∀ (X : zS2) (i j : Nat), i + j < 5 → (∀ k q : Nat, ¬ (k = 3 ∧ 25 * 144 ≤ q ∧ q < 25 * 144 + 25) → X k q = S k q) → zm_cell X x i j = c (5 * i + j) := fun X i j hij hX => by
    rw [zM_cell, hX 3 _ (by omega)]
    exact hc i j (by omega)
  by_cases hb : b = 0
  · have h := zfor_hit (s := S) (so := zm_makesDerivative_L28 x b) (si := zm_makesDerivative_L36 x b) (fun X : zS2 => X 3 (25 * 144 + 5 * A + B)) (fun X => ∀ k q : Nat, ¬ (k = 3 ∧ 25 * 144 ≤ q ∧ q < 25 * 144 + 25) → X k q = S k q) (fun _ _ _ => rfl) (X := A + 1) (Y := B) (v := c (5 * (A + 1) + B) * ((A + 1 : Nat) : Int) % p) (fun i X hi => by
      unfold zm_makesDerivative_L28
      dsimp only
      rw [zlet_v, show ((4 - (i : Int)) + 1 - 0).toNat = 5 - i by omega]) (fun i j X hij hX => by
      have x10 : X 0 10 = p := by rw [hX 0 10 (by omega), hS]
      have es : zm_makesDerivative_L36 x b i j X = if i = 0 then X else za X 3 (25 * 144 + 5 * (i - 1) + j) ((i : Int) * c (5 * i + j) % p) := by
        unfold zm_makesDerivative_L36
        dsimp only
        have e1 : zm_makesDerivative_J45 b i j = (i : Int) := by
          unfold zm_makesDerivative_J45
          rw [if_pos hb]
        rw [zlet_v, e1, cell X i j hij hX]
        by_cases z : i = 0
        · rw [if_pos z, if_pos (by omega)]
        · rw [if_neg z, if_neg (by omega), if_pos hb, if_pos hb, zlet_v, zlet_v, show (i : Int) - 1 = ((i - 1 : Nat) : Int) by omega]
          exact zm_setsE (g := 144) x10 hp
      rw [es]
      by_cases z : i = 0
      · rw [if_pos z]
        exact ⟨hX, fun _ => rfl, fun e _ => by omega⟩
      · rw [if_neg z]
        refine ⟨fun k q hk => by rw [za_ne (by omega)]; exact hX k q hk, fun hne => za_ne (by omega), fun e _ => ?_⟩
        show za X 3 (25 * 144 + 5 * (i - 1) + j) ((i : Int) * c (5 * i + j) % p) 3 (25 * 144 + 5 * A + B) = _
        rw [e.1, e.2, show A + 1 - 1 = A by omega, za_same, Int.mul_comm])
    refine ⟨h.1, ?_⟩
    rw [if_pos hb, ← zG_at _ 144 A B]
    have h2 := h.2
    rw [h2, g0]
  · have h := zfor_hit (s := S) (so := zm_makesDerivative_L28 x b) (si := zm_makesDerivative_L36 x b) (fun X : zS2 => X 3 (25 * 144 + 5 * A + B)) (fun X => ∀ k q : Nat, ¬ (k = 3 ∧ 25 * 144 ≤ q ∧ q < 25 * 144 + 25) → X k q = S k q) (fun _ _ _ => rfl) (X := A) (Y := B + 1) (v := c (5 * A + (B + 1)) * ((B + 1 : Nat) : Int) % p) (fun i X hi => by
      unfold zm_makesDerivative_L28
      dsimp only
      rw [zlet_v, show ((4 - (i : Int)) + 1 - 0).toNat = 5 - i by omega]) (fun i j X hij hX => by
      have x10 : X 0 10 = p := by rw [hX 0 10 (by omega), hS]
      have es : zm_makesDerivative_L36 x b i j X = if j = 0 then X else za X 3 (25 * 144 + 5 * i + (j - 1)) ((j : Int) * c (5 * i + j) % p) := by
        unfold zm_makesDerivative_L36
        dsimp only
        have e1 : zm_makesDerivative_J45 b i j = (j : Int) := by
          unfold zm_makesDerivative_J45
          rw [if_neg hb]
        rw [zlet_v, e1, cell X i j hij hX]
        by_cases z : j = 0
        · rw [if_pos z, if_pos (by omega)]
        · rw [if_neg z, if_neg (by omega), if_neg hb, if_neg hb, zlet_v, zlet_v, show (j : Int) - 1 = ((j - 1 : Nat) : Int) by omega]
          exact zm_setsE (g := 144) x10 hp
      rw [es]
      by_cases z : j = 0
      · rw [if_pos z]
        exact ⟨hX, fun _ => rfl, fun e _ => by omega⟩
      · rw [if_neg z]
        refine ⟨fun k q hk => by rw [za_ne (by omega)]; exact hX k q hk, fun hne => za_ne (by omega), fun e _ => ?_⟩
        show za X 3 (25 * 144 + 5 * i + (j - 1)) ((j : Int) * c (5 * i + j) % p) 3 (25 * 144 + 5 * A + B) = _
        rw [e.1, e.2, show B + 1 - 1 = B by omega, za_same, Int.mul_comm])
    refine ⟨h.1, ?_⟩
    rw [if_neg hb, ← zG_at _ 144 A B]
    have h2 := h.2
    rw [h2, g0]
theorem zmk_5 {i : Int} {M : zCt} {S : zS2} {a b t : Int} (hR : zBm i M S) (hC : zCI M) : zMkB M S (zc_build M a b 5 t) (zm_makes S a b 5 t) := by
  have hB := hR.1.2.2.1
  have hn := hC.cn
  have hp := zPr_2 hR.2.1
  have ec : zc_build M a b 5 t = zc_buildDerivative M a b := by
    unfold zc_build
    rw [if_neg (by decide), if_neg (by decide), if_neg (by decide), if_neg (by decide), if_neg (by decide), if_pos rfl, zlet_v]
  have em : zm_makes S a b 5 t = zm_makesDerivative S a b := by
    unfold zm_makes
    rw [if_neg (by decide), if_neg (by decide), if_neg (by decide), if_neg (by decide), if_neg (by decide), if_pos rfl, zlet_v]
  rw [ec, em]
  unfold zm_makesDerivative
  rw [zB_isCurve, hB.2.1]
  by_cases ha : 0 ≤ a ∧ a < M.1 0 4
  · rw [if_pos ha, zlet_v, if_neg (show ¬ (1 : Int) = 0 by decide), zB_isIn]
    by_cases hb : 0 ≤ b ∧ b ≤ 1
    · rw [if_pos hb, zlet_v, if_neg (show ¬ (1 : Int) = 0 by decide)]
      simp only [zlet_v]
      obtain ⟨x, rfl⟩ : ∃ x : Nat, a = x := ⟨a.toNat, by omega⟩
      obtain ⟨bx, hbx⟩ : ∃ bx : Int, bx = if b = 0 then 1 else 0 := ⟨_, rfl⟩
      obtain ⟨N, hN⟩ : ∃ N, N = zw_made M (zder (M.2.1 x) bx (M.1 0 3)) (M.1 0 3) := ⟨_, rfl⟩
      have n27 : N.1 27 = zder (M.2.1 x) bx (M.1 0 3) := by
        rw [hN]
        unfold zw_made
        dsimp only
        rw [zset_self]
      have eb : zc_buildDerivative M x b = (1, N) := by
        unfold zc_buildDerivative
        rw [if_pos (show 0 ≤ (x : Int) ∧ (x : Int) < M.1 0 4 ∧ (x : Int) < 6 by omega), if_neg (by omega), if_pos hb.2, Int.toNat_natCast]
        by_cases b0 : b = 0
        · rw [if_pos b0, zlet_v, hN, hbx, if_pos b0]
        · rw [if_neg b0, zlet_v, hN, hbx, if_neg b0]
      rw [eb]
      obtain ⟨T, hT⟩ : ∃ T, T = zm_empties S 144 := ⟨_, rfl⟩
      have t0 : ∀ a i : Nat, T a i = if a = 3 ∧ 25 * 144 ≤ i ∧ i < 25 * 144 + 25 then 0 else S a i := by rw [hT]; exact zm_empties_sp S 144
      rw [← hT, show (4 + 1 - 0 : Int).toNat = 5 from rfl]
      have dsp := fun A B hA hB5 => zm_der_sp (S := T) (p := M.1 0 3) (x := x) (c := M.2.1 x) b (by rw [t0, if_neg (by omega)]; exact hB.1) (by omega) (by omega) (fun i j hij => by
        rw [t0, if_neg (by omega), ← (hB.2.2 x ha.2).1 (5 * i + j) (by omega), Nat.add_assoc]) (fun q h1 h2 => by rw [t0, if_pos (by omega)]) A B hA hB5
      obtain ⟨U, hU⟩ : ∃ U, U = zfor (zm_makesDerivative_L28 x b) 0 T 5 := ⟨_, rfl⟩
      rw [← hU] at dsp ⊢
      have cel : ∀ A B : Nat, A < 5 → B < 5 → zG U 144 (5 * A + B) = zder (M.2.1 x) bx (M.1 0 3) (5 * A + B) := fun A B hA hB5 => by
        rw [(dsp A B hA hB5).2, hbx]
        by_cases b0 : b = 0
        · rw [if_pos b0, if_pos b0, zder_x A B hB5]
        · rw [if_neg b0, if_neg b0, zder_y A B hB5]
      have nf : zflt (zder (M.2.1 x) bx (M.1 0 3)) := fun A B hA hB5 hAB => by
        rw [hbx]
        by_cases b0 : b = 0
        · rw [if_pos b0, zder_x A B hB5, if_neg (by omega)]
        · rw [if_neg b0, zder_y A B hB5, if_neg (by omega)]
      have dg : zm_degreeOf U 144 = ztop (N.1 27) := by
        have e1 := zm_degG U 144
        have e2 : zm_degreeOf U 144 = ztop (zG U 144) := e1
        rw [e2, n27]
        exact zT_congr (fun i j hij => cel i j (by omega) (by omega))
      have fr : zFm S U := fun k i h1 h2 h3 => by
        rw [(dsp 0 0 (by omega) (by omega)).1 k i (by omega), t0, if_neg (by omega)]
      have zN : zCI N := by
        rw [hN]
        exact zi_made hC (zcan_le (zder_can (by omega)) hp.2)
      have vN : zVE N M := by
        rw [hN]
        exact zv_made
      rw [dg]
      by_cases q : ztop (N.1 27) ≤ 0
      · rw [if_pos q]
        exact ⟨vN, fr, zN, Or.inl ⟨rfl, Or.inr (by show ztop (N.1 27) < 1; omega)⟩⟩
      · rw [if_neg q]
        refine ⟨vN, fr, zN, Or.inr ⟨by show ¬ (1 : Int) = 0; decide, by show ¬ (1 : Int) = 0; decide, by show 1 ≤ ztop (N.1 27); omega, ?_, fun q hq => ?_⟩⟩
        · show zflt (N.1 27)
          rw [n27]; exact nf
        · show zG U 144 q = N.1 27 q
          rw [n27]
          have e : q = 5 * (q / 5) + q % 5 := by omega
          rw [e]
          exact cel _ _ (by omega) (by omega)
    · rw [if_neg hb, zlet_v, if_pos rfl]
      have eb : zc_buildDerivative M a b = (0, M) := by
        unfold zc_buildDerivative
        rw [if_pos (show 0 ≤ a ∧ a < M.1 0 4 ∧ a < 6 by omega)]
        by_cases q : b < 0
        · rw [if_pos q]
        · rw [if_neg q, if_neg (by omega)]
      rw [eb]
      exact zMkB_no hC
  · rw [if_neg ha, zlet_v, if_pos rfl]
    have eb : zc_buildDerivative M a b = (0, M) := by
      unfold zc_buildDerivative
      rw [if_neg (show ¬ (0 ≤ a ∧ a < M.1 0 4 ∧ a < 6) by omega)]
    rw [eb]
    exact zMkB_no hC
theorem zfact_30 (L : Nat) : zlK_30 zBm L := zmk_30 (fun i M S a b how t hR hC => by
  by_cases h0 : how = 0
  · rw [h0]; exact zmk_0 hR hC
  by_cases h1 : how = 1
  · rw [h1]; exact zmk_1 hR hC
  by_cases h2 : how = 2
  · rw [h2]; exact zmk_2 hR hC
  by_cases h3 : how = 3
  · rw [h3]; exact zmk_3 hR hC
  by_cases h4 : how = 4
  · rw [h4]; exact zmk_4 hR hC
  by_cases h5 : how = 5
  · rw [h5]; exact zmk_5 hR hC
  have ec : zc_build M a b how t = (0, M) := by
    unfold zc_build
    rw [if_neg h0, if_neg h1, if_neg h2, if_neg h3, if_neg h4, if_neg h5]
  have em : zm_makes S a b how t = (0, S) := by
    unfold zm_makes
    rw [if_neg h0, if_neg h1, if_neg h2, if_neg h3, if_neg h4, if_neg h5]
  rw [ec, em]
  exact zMkB_no hC) L
end ZGg
