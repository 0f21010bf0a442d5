section ZGg
/-- two loops of which one pass alone lays what stands at a place -/
theorem zfor_hit {σ : Type} {s : σ} {so : Int → σ → σ} {si : Int → Int → σ → σ} (get : σ → Int) (P : σ → Prop) (hP : P s) {X Y : Nat} {v : Int} (ho : ∀ (i : Nat) (x : σ), i < 5 → so i x = zfor (si i) 0 x (5 - i)) (hi : ∀ (i j : Nat) (x : σ), i + j < 5 → P x → P (si i j x) ∧ (¬ (i = X ∧ j = Y) → get (si i j x) = get x) ∧ (i = X ∧ j = Y → get x = get s → get (si i j x) = v)) : P (zfor so 0 s 5) ∧ get (zfor so 0 s 5) = if X + Y ≤ 4 then v else get s := by
  have h : (fun (n : Nat) (x : σ) => P x ∧ get x = if X < n ∧ X + Y ≤ 4 then v else get s) 5 (zfor so 0 s 5) := by
    refine zfor_ix (I := fun (n : Nat) (x : σ) => P x ∧ get x = if X < n ∧ X + Y ≤ 4 then v else get s) ⟨hP, by rw [if_neg (by omega)]⟩ 5 (fun i x hi5 hx => ?_)
    rw [show 0 + (i : Int) = (i : Int) by omega, ho i x hi5]
    have h2 : (fun (n : Nat) (y : σ) => P y ∧ get y = if (X < i ∧ X + Y ≤ 4) ∨ (X = i ∧ Y < n ∧ X + Y ≤ 4) then v else get s) (5 - i) (zfor (si i) 0 x (5 - i)) := by
      refine zfor_ix (I := fun (n : Nat) (y : σ) => P y ∧ get y = if (X < i ∧ X + Y ≤ 4) ∨ (X = i ∧ Y < n ∧ X + Y ≤ 4) then v else get s) ⟨hx.1, ?_⟩ (5 - i) (fun j y hj hy => ?_)
      · rw [hx.2]
        by_cases q : X < i ∧ X + Y ≤ 4
        · rw [if_pos q, if_pos (Or.inl q)]
        · rw [if_neg q, if_neg (by omega)]
      · rw [show 0 + (j : Int) = (j : Int) by omega]
        obtain ⟨a1, a2, a3⟩ := hi i j y (by omega) hy.1
        refine ⟨a1, ?_⟩
        by_cases e : i = X ∧ j = Y
        · have e0 := hy.2
          rw [if_neg (by omega)] at e0
          rw [a3 e e0, if_pos (by omega)]
        · rw [a2 e, hy.2]
          by_cases q : (X < i ∧ X + Y ≤ 4) ∨ (X = i ∧ Y < j ∧ X + Y ≤ 4)
          · rw [if_pos q, if_pos (by omega)]
          · rw [if_neg q, if_neg (by omega)]
    refine ⟨h2.1, ?_⟩
    rw [h2.2]
    by_cases q : (X < i ∧ X + Y ≤ 4) ∨ (X = i ∧ Y < 5 - i ∧ X + Y ≤ 4)
    · rw [if_pos q, if_pos (by omega)]
    · rw [if_neg q, if_neg (by omega)]
  refine ⟨h.1, ?_⟩
  rw [h.2]
  by_cases q : X + Y ≤ 4
  · rw [if_pos q, if_pos (by omega)]
  · rw [if_neg q, if_neg (by omega)]
theorem zder_x {d : Nat → Int} {p : Int} (A B : Nat) (hB : B < 5) : zder d 1 p (5 * A + B) = if A + 1 + B ≤ 4 then d (5 * (A + 1) + B) * ((A + 1 : Nat) : Int) % p else 0 := by
  have z0 : zone 0 (5 * A + B) = 0 := by
    unfold zone
    split <;> rfl
  have h := zfor_hit (s := zone 0) (so := zder_out d 1 p) (si := zder_in d 1 p) (fun c : Nat → Int => c (5 * A + B)) (fun _ => True) trivial (X := A + 1) (Y := B) (v := d (5 * (A + 1) + B) * ((A + 1 : Nat) : Int) % p) (fun i x hi => by
    unfold zder_out
    rw [show (4 - (i : Int) + 1 - 0).toNat = 5 - i by omega]) (fun i j x hij _ => ⟨trivial, fun hne => ?_, fun e hx => ?_⟩)
  · unfold zder
    rw [show (5 - 0 : Int).toNat = 5 from rfl, h.2, z0]
  · unfold zder_in
    rw [if_neg (show ¬ (1 : Int) = 0 by decide), if_neg (show ¬ (1 : Int) = 0 by decide), if_neg (show ¬ (1 : Int) = 0 by decide)]
    by_cases q : zat d i j * (i : Int) % p = 0
    · rw [if_pos q]
    · rw [if_neg q]
      show zput x ((i : Int) - 1) j (zat d i j * (i : Int) % p) (5 * A + B) = x (5 * A + B)
      have i0 : i ≠ 0 := fun z => q (by rw [z]; simp)
      rw [zput_t (by unfold zfits; omega)]
      unfold zup
      rw [if_neg (by omega)]
  · unfold zder_in
    rw [if_neg (show ¬ (1 : Int) = 0 by decide), if_neg (show ¬ (1 : Int) = 0 by decide), if_neg (show ¬ (1 : Int) = 0 by decide), e.1, e.2, zatN (by omega)]
    by_cases q : d (5 * (A + 1) + B) * ((A + 1 : Nat) : Int) % p = 0
    · rw [if_pos q, q]
      have hx' : x (5 * A + B) = zone 0 (5 * A + B) := hx
      rw [hx', z0]
    · rw [if_neg q, zput_t (by unfold zfits; omega)]
      unfold zup
      rw [if_pos (by omega)]
theorem zder_y {d : Nat → Int} {p : Int} (A B : Nat) (hB : B < 5) : zder d 0 p (5 * A + B) = if A + (B + 1) ≤ 4 then d (5 * A + (B + 1)) * ((B + 1 : Nat) : Int) % p else 0 := by
  have z0 : zone 0 (5 * A + B) = 0 := by
    unfold zone
    split <;> rfl
  have h := zfor_hit (s := zone 0) (so := zder_out d 0 p) (si := zder_in d 0 p) (fun c : Nat → Int => c (5 * A + B)) (fun _ => True) trivial (X := A) (Y := B + 1) (v := d (5 * A + (B + 1)) * ((B + 1 : Nat) : Int) % p) (fun i x hi => by
    unfold zder_out
    rw [show (4 - (i : Int) + 1 - 0).toNat = 5 - i by omega]) (fun i j x hij _ => ⟨trivial, fun hne => ?_, fun e hx => ?_⟩)
  · unfold zder
    rw [show (5 - 0 : Int).toNat = 5 from rfl, h.2, z0]
  · unfold zder_in
    rw [if_pos (show (0 : Int) = 0 from rfl), if_pos (show (0 : Int) = 0 from rfl), if_pos (show (0 : Int) = 0 from rfl)]
    by_cases q : zat d i j * (j : Int) % p = 0
    · rw [if_pos q]
    · rw [if_neg q]
      show zput x (i : Int) ((j : Int) - 1) (zat d i j * (j : Int) % p) (5 * A + B) = x (5 * A + B)
      have i0 : j ≠ 0 := fun z => q (by rw [z]; simp)
      rw [zput_t (by unfold zfits; omega)]
      unfold zup
      rw [if_neg (by omega)]
  · unfold zder_in
    rw [if_pos (show (0 : Int) = 0 from rfl), if_pos (show (0 : Int) = 0 from rfl), if_pos (show (0 : Int) = 0 from rfl), e.1, e.2, zatN (by omega)]
    by_cases q : d (5 * A + (B + 1)) * ((B + 1 : Nat) : Int) % p = 0
    · rw [if_pos q, q]
      have hx' : x (5 * A + B) = zone 0 (5 * A + B) := hx
      rw [hx', z0]
    · rw [if_neg q, zput_t (by unfold zfits; omega)]
      unfold zup
      rw [if_pos (by omega)]
end ZGg
