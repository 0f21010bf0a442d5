section ZHa
/-- a grid of the model is one of the class -/
def zRG (F : Nat → Int) (S : zS2) (k : Nat) : Prop := ∀ q : Nat, q < 289 → S k q = F q
theorem zgrt_sp (F : Nat → Int) : (zgrt F = -1 ∧ ∀ i : Nat, i < 17 → F (17 * i) = 0) ∨ ∃ k : Nat, k < 17 ∧ zgrt F = k ∧ F (17 * k) ≠ 0 ∧ ∀ i : Nat, k < i → i < 17 → F (17 * i) = 0 := by
  have lp : ∀ n : Nat, (zgrtF F n = -1 ∧ ∀ i : Nat, i < n → F (17 * i) = 0) ∨ ∃ k : Nat, k < n ∧ zgrtF F n = k ∧ F (17 * k) ≠ 0 ∧ ∀ i : Nat, k < i → i < n → F (17 * i) = 0 := fun n => by
    induction n with
    | zero => exact Or.inl ⟨rfl, fun i hi => absurd hi (Nat.not_lt_zero _)⟩
    | succ n ih =>
      simp only [zgrtF]
      by_cases q : F (n * 17) = 0
      · rw [if_neg (fun z => z q)]
        rcases ih with ⟨a, b⟩ | ⟨k, a, b, c, d⟩
        · refine Or.inl ⟨a, fun i hi => ?_⟩
          by_cases e : i = n
          · rw [e, Nat.mul_comm]; exact q
          · exact b i (by omega)
        · refine Or.inr ⟨k, by omega, b, c, fun i h1 h2 => ?_⟩
          by_cases e : i = n
          · rw [e, Nat.mul_comm]; exact q
          · exact d i h1 (by omega)
      · rw [if_pos q]
        exact Or.inr ⟨n, by omega, rfl, by rw [Nat.mul_comm]; exact q, fun i h1 h2 => by omega⟩
  exact lp 17
theorem zlst_sp (F : Nat → Int) : (zlst F = -1 ∧ ∀ i : Nat, i < 17 → F (17 * i) = 0) ∨ 0 ≤ zlst F := by
  have lp : ∀ n i : Nat, n + i = 17 → (zlstF F n i = -1 ∧ ∀ k : Nat, i ≤ k → k < 17 → F (17 * k) = 0) ∨ 0 ≤ zlstF F n i := fun n => by
    induction n with
    | zero => exact fun i hi => Or.inl ⟨rfl, fun k a b => by omega⟩
    | succ n ih =>
      intro i hi
      simp only [zlstF]
      rw [show ((i : Int) * 17).toNat = 17 * i by omega]
      by_cases q : F (17 * i) = 0
      · rw [if_neg (fun z => z q), show (i : Int) + 1 = ((i + 1 : Nat) : Int) by omega]
        rcases ih (i + 1) (by omega) with ⟨a, b⟩ | a
        · refine Or.inl ⟨a, fun k h1 h2 => ?_⟩
          by_cases e : k = i
          · rw [e]; exact q
          · exact b k (by omega) h2
        · exact Or.inr a
      · rw [if_pos q]
        exact Or.inr (by omega)
  rcases lp 17 0 rfl with ⟨a, b⟩ | a
  · exact Or.inl ⟨a, fun i hi => b i (Nat.zero_le _) hi⟩
  · exact Or.inr a
/-- SPLIT, place by place -/
theorem zspl_sp (F : Nat → Int) {i j : Nat} (hi : i < 17) (hj : j < 17) : zspl F (17 * i + j) = if j < 16 then F (17 * i + j + 1) else 0 := by
  have inn : ∀ (i : Nat) (X : Nat → Int), i < 17 → ∀ a b : Nat, b < 17 → zspl_out i X (17 * a + b) = if a = i then (if b < 16 then X (17 * a + b + 1) else 0) else X (17 * a + b) := fun i X hi a b hb => by
    have f := zfor_ix (step := zspl_in i) (a := 0) (s := X) (fun (n : Nat) (Y : Nat → Int) => ∀ a b : Nat, b < 17 → Y (17 * a + b) = if a = i ∧ b < n then X (17 * a + b + 1) else X (17 * a + b)) (fun a b hb => by rw [if_neg (by omega)]) 16 (fun n Y hn hY a b hb => by
      have e0 : Y (17 * i + (n + 1)) = X (17 * i + (n + 1)) := by rw [hY i (n + 1) (by omega), if_neg (by omega)]
      unfold zspl_in
      rw [show ((i : Int) * 17 + (0 + (n : Int))).toNat = 17 * i + n by omega, show ((i : Int) * 17 + (0 + (n : Int)) + 1).toNat = 17 * i + (n + 1) by omega, zup_ap, e0, hY a b hb]
      by_cases e : a = i ∧ b = n
      · rw [if_pos (show 17 * a + b = 17 * i + n by omega), if_pos (show a = i ∧ b < n + 1 by omega), e.1, e.2]
        rfl
      · rw [if_neg (show ¬ 17 * a + b = 17 * i + n by omega)]
        by_cases e2 : a = i ∧ b < n
        · rw [if_pos e2, if_pos (by omega)]
        · rw [if_neg e2, if_neg (by omega)])
    unfold zspl_out
    rw [zup_ap, show ((i : Int) * 17 + 16).toNat = 17 * i + 16 by omega, show (16 - 0 : Int).toNat = 16 by decide]
    by_cases e : a = i
    · rw [if_pos e]
      by_cases e2 : b < 16
      · rw [if_neg (by omega), f a b hb, if_pos ⟨e, e2⟩, if_pos e2]
      · rw [if_pos (by omega), if_neg e2]
    · rw [if_neg (by omega), f a b hb, if_neg (by omega), if_neg e]
  have out := zfor_ix (step := zspl_out) (a := 0) (s := F) (fun (n : Nat) (Y : Nat → Int) => ∀ a b : Nat, b < 17 → Y (17 * a + b) = if a < n then (if b < 16 then F (17 * a + b + 1) else 0) else F (17 * a + b)) (fun a b hb => by rw [if_neg (by omega)]) 17 (fun n Y hn hY a b hb => by
    rw [show (0 + (n : Int)) = (n : Int) by omega, inn n Y hn a b hb]
    by_cases e : a = n
    · rw [if_pos e, if_pos (show a < n + 1 by omega)]
      have e0 : Y (17 * a + b + 1) = F (17 * a + b + 1) ∨ ¬ b < 16 := by
        by_cases e2 : b < 16
        · refine Or.inl ?_
          rw [show 17 * a + b + 1 = 17 * a + (b + 1) by omega, hY a (b + 1) (by omega), if_neg (show ¬ a < n by omega)]
        · exact Or.inr e2
      rcases e0 with e0 | e0
      · rw [e0]
      · rw [if_neg e0, if_neg e0]
    · rw [if_neg e, hY a b hb]
      by_cases e3 : a < n
      · rw [if_pos e3, if_pos (show a < n + 1 by omega)]
      · rw [if_neg e3, if_neg (by omega)])
  have := out i j hj
  rw [if_pos hi] at this
  exact this
theorem zfor_sh {σ : Type} {s : Int → σ → σ} {a : Int} {x : σ} : ∀ k : Nat, zfor s a x k = zfor (fun i => s (i + a)) 0 x k
  | 0 => rfl
  | k + 1 => by
    show s (a + k) (zfor s a x k) = s (0 + (k : Int) + a) (zfor (fun i => s (i + a)) 0 x k)
    rw [zfor_sh k, show 0 + (k : Int) + a = a + k by omega]
/-- CUT, place by place -/
theorem zcut_sp {F G : Nat → Int} {p : Int} (hp : 0 < p) (hG : zcan p G) {x y : Nat} (hx : zgrt F = x) (hy : zgrt G = y) (hxy : x ≤ y) (y16 : y < 17) {i j : Nat} (hi : i < 17) (hj : j < 17) : zcut F G p (17 * i + j) = if y - x ≤ i ∧ i + j ≤ 16 then (G (17 * i + j) + zcutm F G p * F (17 * (i - (y - x)) + j)) % p else G (17 * i + j) := by
  obtain ⟨r, hr⟩ : ∃ r, r = y - x := ⟨_, rfl⟩
  obtain ⟨mn, hm⟩ : ∃ m, m = zcutm F G p := ⟨_, rfl⟩
  have e : zcut F G p = zfor (zcut_out F p (r : Int) mn) (r : Int) G (17 - r) := by
    unfold zcut
    rw [if_neg (by omega), hx, hy, ← hm, show (y : Int) - (x : Int) = (r : Int) by omega, show (17 - (r : Int)).toNat = 17 - r by omega]
  rw [e, ← hm, ← hr, zfor_sh]
  have inn : ∀ (n : Nat) (X : Nat → Int), n + r < 17 → zcan p X → ∀ a b : Nat, b < 17 → zcut_out F p r mn ((n : Int) + (r : Int)) X (17 * a + b) = if a = n + r ∧ a + b ≤ 16 then (X (17 * a + b) + mn * F (17 * n + b)) % p else X (17 * a + b) := fun n X hn hX a b hb => by
    unfold zcut_out
    rw [show (16 - ((n : Int) + (r : Int)) + 1 - 0).toNat = 17 - (n + r) by omega]
    have f := zfor_ix (step := zcut_in F p r mn ((n : Int) + (r : Int))) (a := 0) (s := X) (fun (m : Nat) (Y : Nat → Int) => ∀ a b : Nat, b < 17 → Y (17 * a + b) = if a = n + r ∧ b < m then (X (17 * a + b) + mn * F (17 * n + b)) % p else X (17 * a + b)) (fun a b hb => by rw [if_neg (by omega)]) (17 - (n + r)) (fun m Y hmm hY a b hb => by
      have e0 : Y (17 * (n + r) + m) = X (17 * (n + r) + m) := by rw [hY _ _ (by omega), if_neg (by omega)]
      unfold zcut_in
      rw [show (((n : Int) + (r : Int) - (r : Int)) * 17 + (0 + (m : Int))).toNat = 17 * n + m by omega, show (((n : Int) + (r : Int)) * 17 + (0 + (m : Int))).toNat = 17 * (n + r) + m by omega]
      by_cases q : F (17 * n + m) = 0
      · rw [if_neg (fun z => z q), hY a b hb]
        by_cases e2 : a = n + r ∧ b = m
        · rw [if_neg (by omega), if_pos (by omega), e2.1, e2.2, q, Int.mul_zero, Int.add_zero, Int.emod_eq_of_lt (hX _).1 (hX _).2]
        · by_cases e3 : a = n + r ∧ b < m
          · rw [if_pos e3, if_pos (by omega)]
          · rw [if_neg e3, if_neg (by omega)]
      · rw [if_pos q, zup_ap, e0]
        by_cases e2 : a = n + r ∧ b = m
        · rw [if_pos (by omega), if_pos (by omega), e2.1, e2.2]
        · rw [if_neg (by omega), hY a b hb]
          by_cases e3 : a = n + r ∧ b < m
          · rw [if_pos e3, if_pos (by omega)]
          · rw [if_neg e3, if_neg (by omega)])
    rw [f a b hb]
    by_cases e3 : a = n + r ∧ b < 17 - (n + r)
    · rw [if_pos e3, if_pos (by omega)]
    · rw [if_neg e3, if_neg (by omega)]
  have canup : ∀ (i : Int) (X : Nat → Int), zcan p X → zcan p (zcut_out F p r mn i X) := fun i X hX => zfor_inv (zcan p) hX (fun j Y hY => by
    show zcan p (zcut_in F p r mn i j Y)
    unfold zcut_in
    split
    · exact zcan_up hY _ (zmr _ hp)
    · exact hY) _
  have out := zfor_ix (step := fun i => zcut_out F p r mn (i + (r : Int))) (a := 0) (s := G) (fun (n : Nat) (Y : Nat → Int) => zcan p Y ∧ ∀ a b : Nat, b < 17 → Y (17 * a + b) = if r ≤ a ∧ a < n + r ∧ a + b ≤ 16 then (G (17 * a + b) + mn * F (17 * (a - r) + b)) % p else G (17 * a + b)) ⟨hG, fun a b hb => by rw [if_neg (by omega)]⟩ (17 - r) (fun n Y hn hY => by
    rw [show (0 + (n : Int)) = (n : Int) by omega]
    refine ⟨canup _ _ hY.1, fun a b hb => ?_⟩
    rw [inn n Y (by omega) hY.1 a b hb, hY.2 a b hb]
    by_cases e1 : a = n + r ∧ a + b ≤ 16
    · rw [if_pos e1, if_neg (by omega), if_pos (by omega), show a - r = n by omega]
    · rw [if_neg e1]
      by_cases e3 : r ≤ a ∧ a < n + r ∧ a + b ≤ 16
      · rw [if_pos e3, if_pos (by omega)]
      · rw [if_neg e3, if_neg (by omega)])
  rw [out.2 i j hj]
  by_cases e3 : r ≤ i ∧ i + j ≤ 16
  · rw [if_pos e3, if_pos (by omega)]
  · rw [if_neg e3, if_neg (by omega)]
end ZHa
