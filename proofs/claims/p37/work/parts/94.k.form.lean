section ZGk
theorem zfor_hitD {σ : Type} {s : σ} {D : Nat} {so : Int → σ → σ} {si : Int → Int → σ → σ} (get : σ → Int) (P : σ → Prop) (hP : P s) {X Y : Nat} {v : Int} (ho : ∀ (i : Nat) (x : σ), i < D → so i x = zfor (si i) 0 x (D - i)) (hi : ∀ (i j : Nat) (x : σ), i + j < D → P x → P (si i j x) ∧ (¬ (i = X ∧ j = Y) → get (si i j x) = get x) ∧ (i = X ∧ j = Y → get x = get s → get (si i j x) = v)) : P (zfor so 0 s D) ∧ get (zfor so 0 s D) = if X + Y < D then v else get s := by
  have h : (fun (n : Nat) (x : σ) => P x ∧ get x = if X < n ∧ X + Y < D then v else get s) D (zfor so 0 s D) := by
    refine zfor_ix (I := fun (n : Nat) (x : σ) => P x ∧ get x = if X < n ∧ X + Y < D then v else get s) ⟨hP, by rw [if_neg (by omega)]⟩ D (fun i x hi5 hx => ?_)
    rw [show 0 + (i : Int) = (i : Int) by omega, ho i x hi5]
    have h2 : (fun (n : Nat) (y : σ) => P y ∧ get y = if (X < i ∧ X + Y < D) ∨ (X = i ∧ Y < n ∧ X + Y < D) then v else get s) (D - i) (zfor (si i) 0 x (D - i)) := by
      refine zfor_ix (I := fun (n : Nat) (y : σ) => P y ∧ get y = if (X < i ∧ X + Y < D) ∨ (X = i ∧ Y < n ∧ X + Y < D) then v else get s) ⟨hx.1, ?_⟩ (D - i) (fun j y hj hy => ?_)
      · rw [hx.2]
        by_cases q : X < i ∧ X + Y < D
        · rw [if_pos q, if_pos (Or.inl q)]
        · rw [if_neg q, if_neg (by omega)]
      · rw [show 0 + (j : Int) = (j : Int) by omega]
        obtain ⟨a1, a2, a3⟩ := hi i j y (by omega) hy.1
        refine ⟨a1, ?_⟩
        by_cases e : i = X ∧ j = Y
        · have e0 := hy.2
          rw [if_neg (by omega)] at e0
          rw [a3 e e0, if_pos (by omega)]
        · rw [a2 e, hy.2]
          by_cases q : (X < i ∧ X + Y < D) ∨ (X = i ∧ Y < j ∧ X + Y < D)
          · rw [if_pos q, if_pos (by omega)]
          · rw [if_neg q, if_neg (by omega)]
    refine ⟨h2.1, ?_⟩
    rw [h2.2]
    by_cases q : (X < i ∧ X + Y < D) ∨ (X = i ∧ Y < D - i ∧ X + Y < D)
    · rw [if_pos q, if_pos (by omega)]
    · rw [if_neg q, if_neg (by omega)]
  refine ⟨h.1, ?_⟩
  rw [h.2]
  by_cases q : X + Y < D
  · rw [if_pos q, if_pos (by omega)]
  · rw [if_neg q, if_neg (by omega)]
/-- a POLYNOMIAL times a TERM as a line -/
def kp_w {K : Type} [Lean.Grind.CommRing K] (W : Nat) (F : Nat → Nat → K) : Nat → K := fun k => if k < W then kvec F k else 0
end ZGk
