section ZIb
/-- a sum of counts -/
def ns (f : Nat → Nat) : Nat → Nat
  | 0 => 0
  | n + 1 => ns f n + f n
theorem ns_mono (f : Nat → Nat) {n m : Nat} (h : n ≤ m) : ns f n ≤ ns f m := by
  induction m with
  | zero => rw [show n = 0 by omega]; exact Nat.le_refl _
  | succ m ih =>
    by_cases e : n = m + 1
    · rw [e]; exact Nat.le_refl _
    · have := ih (by omega)
      show ns f n ≤ ns f m + f m
      omega
/-- 1 where a TERM has a column -/
def nch (top x y i j : Nat) : Nat := if i + j ≤ top ∧ (i < x ∨ j < y) then 1 else 0
def nrow (top x y i : Nat) : Nat := ns (fun j => nch top x y i j) (25 - i)
theorem ncol_all : ∀ x, x < 5 → ∀ y, y < 5 - x → ns (fun i => nrow 16 x y i) 25 + nT (17 - (x + y)) = 153 ∧ ns (fun i => nrow 24 x y i) 25 + nT (25 - (x + y)) = 325 := by decide +kernel
theorem ncol_94 : ∀ x, x < 5 → ∀ y, y < 5 - x → ns (fun i => nrow 16 x y i) 25 ≤ 94 ∧ ns (fun i => nrow 24 x y i) 25 ≤ 94 := by decide +kernel
/-- the columns, as far as they are given -/
def kCo (top x y : Nat) (seen : Nat → Nat → Prop) (s : (Nat → Int) × Int) (n : Nat) : Prop := s.2 = n ∧ (∀ a b, a < 25 → b < 25 → seen a b → (nch top x y a b = 0 ∧ s.1 (25 * a + b) = -1) ∨ (nch top x y a b = 1 ∧ 0 ≤ s.1 (25 * a + b) ∧ s.1 (25 * a + b) < n)) ∧ ∀ a b a' b', a < 25 → b < 25 → a' < 25 → b' < 25 → seen a b → seen a' b' → 0 ≤ s.1 (25 * a + b) → s.1 (25 * a + b) = s.1 (25 * a' + b') → a = a' ∧ b = b'
theorem kCo_step {top x y : Nat} {seen : Nat → Nat → Prop} {s : (Nat → Int) × Int} {n i j : Nat} (h : kCo top x y seen s n) (hi : i < 25) (hj : j < 25) (hs : ¬ seen i j) (hn : n + nch top x y i j ≤ 94) : kCo top x y (fun a b => seen a b ∨ (a = i ∧ b = j)) (zcolm_in top x y i j s) (n + nch top x y i j) := by
  obtain ⟨h1, h2, h3⟩ := h
  have e0 : ((i : Int) + (j : Int) ≤ (top : Int) ∧ ((i : Int) < (x : Int) ∨ (j : Int) < (y : Int)) ∧ s.2 < 94) ↔ nch top x y i j = 1 := by
    unfold nch
    by_cases c : i + j ≤ top ∧ (i < x ∨ j < y)
    · have hn' := hn
      unfold nch at hn'
      rw [if_pos c] at hn' ⊢
      constructor
      · intro _; rfl
      · intro _
        refine ⟨by omega, by omega, by omega⟩
    · rw [if_neg c]
      constructor
      · intro z; omega
      · intro z; omega
  have c01 : nch top x y i j = 0 ∨ nch top x y i j = 1 := by
    unfold nch
    split
    · exact Or.inr rfl
    · exact Or.inl rfl
  have e1 : (zcolm_in top x y i j s).2 = ((n + nch top x y i j : Nat) : Int) := by
    unfold zcolm_in
    dsimp only
    by_cases c : nch top x y i j = 1
    · rw [if_pos (e0.2 c), c]; omega
    · rw [if_neg (fun z => c (e0.1 z))]; omega
  have e2 : ∀ a b, a < 25 → b < 25 → (zcolm_in top x y i j s).1 (25 * a + b) = if a = i ∧ b = j then (if nch top x y i j = 1 then (n : Int) else -1) else s.1 (25 * a + b) := fun a b ha hb => by
    unfold zcolm_in
    dsimp only
    rw [show ((i : Int) * 25 + (j : Int)).toNat = 25 * i + j by omega, zup_ap]
    by_cases c : a = i ∧ b = j
    · rw [if_pos (show 25 * a + b = 25 * i + j by omega), if_pos c]
      by_cases c2 : nch top x y i j = 1
      · rw [if_pos (e0.2 c2), if_pos c2, h1]
      · rw [if_neg (fun z => c2 (e0.1 z)), if_neg c2]
    · rw [if_neg (show ¬ 25 * a + b = 25 * i + j by omega), if_neg c]
  refine ⟨e1, fun a b ha hb hab => ?_, fun a b a' b' ha hb ha' hb' hab hab' q1 q2 => ?_⟩
  · rw [e2 a b ha hb]
    by_cases c : a = i ∧ b = j
    · rw [if_pos c, c.1, c.2]
      rcases c01 with c2 | c2
      · rw [if_neg (by omega)]
        exact Or.inl ⟨c2, rfl⟩
      · rw [if_pos c2]
        exact Or.inr ⟨c2, by omega, by omega⟩
    · rw [if_neg c]
      rcases hab with hab | hab
      · rcases h2 a b ha hb hab with z | z
        · exact Or.inl z
        · exact Or.inr ⟨z.1, z.2.1, by omega⟩
      · exact absurd hab c
  · rw [e2 a b ha hb] at q1 q2
    rw [e2 a' b' ha' hb'] at q2
    by_cases c : a = i ∧ b = j
    · by_cases c' : a' = i ∧ b' = j
      · omega
      · rw [if_pos c] at q1 q2
        rw [if_neg c'] at q2
        have sn : seen a' b' := by
          rcases hab' with z | z
          · exact z
          · exact absurd z c'
        rcases h2 a' b' ha' hb' sn with z | z
        · rw [z.2] at q2
          omega
        · by_cases c2 : nch top x y i j = 1
          · rw [if_pos c2] at q2; omega
          · rw [if_neg c2] at q1; omega
    · have sn : seen a b := by
        rcases hab with z | z
        · exact z
        · exact absurd z c
      rw [if_neg c] at q1 q2
      by_cases c' : a' = i ∧ b' = j
      · rw [if_pos c'] at q2
        rcases h2 a b ha hb sn with z | z
        · omega
        · by_cases c2 : nch top x y i j = 1
          · rw [if_pos c2] at q2; omega
          · rw [if_neg c2] at q2; omega
      · rw [if_neg c'] at q2
        have sn' : seen a' b' := by
          rcases hab' with z | z
          · exact z
          · exact absurd z c'
        exact h3 a b a' b' ha hb ha' hb' sn sn' q1 q2
/-- all columns -/
theorem zcolm_sp {top x y N : Nat} (hN : N = ns (fun i => nrow top x y i) 25) (h94 : N ≤ 94) (c : Nat → Int) : kCo top x y (fun a b => a + b ≤ 24) (zcolm top x y c) N := by
  have row : ∀ (n : Nat) (s : (Nat → Int) × Int), n < 25 → kCo top x y (fun a b => a < n ∧ a + b ≤ 24) s (ns (fun i => nrow top x y i) n) → kCo top x y (fun a b => a < n + 1 ∧ a + b ≤ 24) (zcolm_out top x y n s) (ns (fun i => nrow top x y i) (n + 1)) := fun n s hn hs => by
    have l := ns_mono (fun i => nrow top x y i) (show n + 1 ≤ 25 by omega)
    have f := zfor_ix (step := zcolm_in top x y n) (a := 0) (s := s) (fun (m : Nat) (t : (Nat → Int) × Int) => kCo top x y (fun a b => (a < n ∧ a + b ≤ 24) ∨ (a = n ∧ b < m)) t (ns (fun i => nrow top x y i) n + ns (fun j => nch top x y n j) m)) (by
      refine ⟨hs.1, fun a b ha hb hab => hs.2.1 a b ha hb ?_, fun a b a' b' ha hb ha' hb' h1 h2 => hs.2.2 a b a' b' ha hb ha' hb' ?_ ?_⟩
      · omega
      · omega
      · omega) (25 - n) (fun m t hm ht => by
      have l2 := ns_mono (fun j => nch top x y n j) (show m + 1 ≤ 25 - n by omega)
      have l3 : ns (fun i => nrow top x y i) (n + 1) = ns (fun i => nrow top x y i) n + ns (fun j => nch top x y n j) (25 - n) := rfl
      have l4 : ns (fun j => nch top x y n j) (m + 1) = ns (fun j => nch top x y n j) m + nch top x y n m := rfl
      have s1 := kCo_step ht (i := n) (j := m) (by omega) (by omega) (by omega) (by omega)
      rw [show (0 + (m : Int)) = (m : Int) by omega, l4, ← Nat.add_assoc]
      refine ⟨s1.1, fun a b ha hb hab => s1.2.1 a b ha hb ?_, fun a b a' b' ha hb ha' hb' h1 h2 => s1.2.2 a b a' b' ha hb ha' hb' ?_ ?_⟩
      · omega
      · omega
      · omega)
    unfold zcolm_out
    rw [show (24 - (n : Int) + 1 - 0).toNat = 25 - n by omega]
    refine ⟨f.1, fun a b ha hb hab => f.2.1 a b ha hb ?_, fun a b a' b' ha hb ha' hb' h1 h2 => f.2.2 a b a' b' ha hb ha' hb' ?_ ?_⟩
    · omega
    · omega
    · omega
  have out := zfor_ix (step := zcolm_out top x y) (a := 0) (s := (c, 0)) (fun (n : Nat) (t : (Nat → Int) × Int) => kCo top x y (fun a b => a < n ∧ a + b ≤ 24) t (ns (fun i => nrow top x y i) n)) ⟨rfl, fun a b _ _ h => by omega, fun a b a' b' _ _ _ _ h => by omega⟩ 25 (fun n t hn ht => by
    rw [show (0 + (n : Int)) = (n : Int) by omega]
    exact row n t hn ht)
  unfold zcolm
  rw [hN, show (25 - 0 : Int).toNat = 25 by decide]
  refine ⟨out.1, fun a b ha hb hab => out.2.1 a b ha hb ?_, fun a b a' b' ha hb ha' hb' h1 h2 => out.2.2 a b a' b' ha hb ha' hb' ?_ ?_⟩
  · omega
  · omega
  · omega
/-- what the columns are good for -/
def kCc (top x y w : Nat) (col : Nat → Int) : Prop := (∀ a b, a + b ≤ top → (x ≤ a ∧ y ≤ b ∧ col (25 * a + b) = -1) ∨ (¬ (x ≤ a ∧ y ≤ b) ∧ 0 ≤ col (25 * a + b) ∧ col (25 * a + b) < w)) ∧ ∀ a b a' b', a + b ≤ top → a' + b' ≤ top → 0 ≤ col (25 * a + b) → col (25 * a + b) = col (25 * a' + b') → a = a' ∧ b = b'
theorem zcolm_ok {top x y : Nat} (ht : top = 16 ∨ top = 24) (hxy : x + y ≤ 4) (c : Nat → Int) : ∃ w : Nat, (zcolm top x y c).2 = w ∧ w + nT (top + 1 - (x + y)) = nT (top + 1) ∧ w ≤ 94 ∧ kCc top x y w (zcolm top x y c).1 := by
  obtain ⟨N, hN⟩ : ∃ N, N = ns (fun i => nrow top x y i) 25 := ⟨_, rfl⟩
  have c1 := ncol_all x (by omega) y (by omega)
  have c2 := ncol_94 x (by omega) y (by omega)
  have n94 : N ≤ 94 := by
    rcases ht with ht | ht
    · rw [hN, ht]; exact c2.1
    · rw [hN, ht]; exact c2.2
  have t24 : top ≤ 24 := by omega
  obtain ⟨k1, k2, k3⟩ := zcolm_sp hN n94 c
  refine ⟨N, k1, ?_, n94, fun a b hab => ?_, fun a b a' b' hab hab' h1 h2 => k3 a b a' b' (by omega) (by omega) (by omega) (by omega) (by omega) (by omega) h1 h2⟩
  · rcases ht with ht | ht
    · rw [hN, ht]; exact c1.1
    · rw [hN, ht]; exact c1.2
  · rcases k2 a b (by omega) (by omega) (by omega) with ⟨z1, z2⟩ | ⟨z1, z2, z3⟩
    · refine Or.inl ?_
      unfold nch at z1
      by_cases c : a + b ≤ top ∧ (a < x ∨ b < y)
      · rw [if_pos c] at z1; omega
      · exact ⟨by omega, by omega, z2⟩
    · refine Or.inr ⟨?_, z2, z3⟩
      unfold nch at z1
      by_cases c : a + b ≤ top ∧ (a < x ∨ b < y)
      · omega
      · rw [if_neg c] at z1; omega
/-- the line of a row, place by place -/
theorem zrl_sp (row col : Nat → Int) {top x y w : Nat} (ht : top ≤ 24) (hc : kCc top x y w col) (q : Nat) : (∃ a b, a + b ≤ top ∧ col (25 * a + b) = q ∧ zrl row col top q = row (25 * a + b)) ∨ ((∀ a b, a + b ≤ top → col (25 * a + b) ≠ q) ∧ zrl row col top q = 0) := by
  have inn : ∀ (i : Nat) (X : Nat → Int), i ≤ top → zrl_out row col top i X = zfor (zrl_in row col i) 0 X (top + 1 - i) := fun i X hi => by
    unfold zrl_out
    rw [show ((top : Int) - (i : Int) + 1 - 0).toNat = top + 1 - i by omega]
  have st : ∀ (i j : Nat) (X : Nat → Int) (seen : Nat → Nat → Prop), i + j ≤ top → ((∃ a b, seen a b ∧ a + b ≤ top ∧ col (25 * a + b) = q ∧ X q = row (25 * a + b)) ∨ ((∀ a b, seen a b → a + b ≤ top → col (25 * a + b) ≠ q) ∧ X q = 0)) → ((∃ a b, (seen a b ∨ (a = i ∧ b = j)) ∧ a + b ≤ top ∧ col (25 * a + b) = q ∧ zrl_in row col i j X q = row (25 * a + b)) ∨ ((∀ a b, (seen a b ∨ (a = i ∧ b = j)) → a + b ≤ top → col (25 * a + b) ≠ q) ∧ zrl_in row col i j X q = 0)) := fun i j X seen hij hX => by
    have e : zrl_in row col i j X q = if col (25 * i + j) = q then row (25 * i + j) else X q := by
      unfold zrl_in
      rw [show ((i : Int) * 25 + (j : Int)).toNat = 25 * i + j by omega]
      by_cases c : 0 ≤ col (25 * i + j)
      · rw [if_pos c, zup_ap]
        by_cases c2 : col (25 * i + j) = q
        · rw [if_pos c2, if_pos (by omega)]
        · rw [if_neg c2, if_neg (by omega)]
      · rw [if_neg c, if_neg (by omega)]
    rw [e]
    by_cases c : col (25 * i + j) = q
    · rw [if_pos c]
      exact Or.inl ⟨i, j, Or.inr ⟨rfl, rfl⟩, hij, c, rfl⟩
    · rw [if_neg c]
      rcases hX with ⟨a, b, h1, h2, h3, h4⟩ | ⟨h1, h2⟩
      · exact Or.inl ⟨a, b, Or.inl h1, h2, h3, h4⟩
      · refine Or.inr ⟨fun a b hab hl => ?_, h2⟩
        rcases hab with hab | hab
        · exact h1 a b hab hl
        · rw [hab.1, hab.2]; exact c
  have out := zfor_ix (step := zrl_out row col top) (a := 0) (s := fun _ => 0) (fun (n : Nat) (X : Nat → Int) => (∃ a b, a < n ∧ a + b ≤ top ∧ col (25 * a + b) = q ∧ X q = row (25 * a + b)) ∨ ((∀ a b, a < n → a + b ≤ top → col (25 * a + b) ≠ q) ∧ X q = 0)) (Or.inr ⟨fun a b ha => absurd ha (Nat.not_lt_zero _), rfl⟩) (top + 1) (fun n X hn hX => by
    rw [show (0 + (n : Int)) = (n : Int) by omega, inn n X (by omega)]
    have f := zfor_ix (step := zrl_in row col n) (a := 0) (s := X) (fun (m : Nat) (Y : Nat → Int) => (∃ a b, (a < n ∨ (a = n ∧ b < m)) ∧ a + b ≤ top ∧ col (25 * a + b) = q ∧ Y q = row (25 * a + b)) ∨ ((∀ a b, (a < n ∨ (a = n ∧ b < m)) → a + b ≤ top → col (25 * a + b) ≠ q) ∧ Y q = 0)) (by
      rcases hX with ⟨a, b, h1, h2, h3, h4⟩ | ⟨h1, h2⟩
      · exact Or.inl ⟨a, b, Or.inl h1, h2, h3, h4⟩
      · exact Or.inr ⟨fun a b hab hl => h1 a b (by omega) hl, h2⟩) (top + 1 - n) (fun m Y hm hY => by
      rw [show (0 + (m : Int)) = (m : Int) by omega]
      rcases st n m Y (fun a b => a < n ∨ (a = n ∧ b < m)) (by omega) hY with ⟨a, b, h1, h2, h3, h4⟩ | ⟨h1, h2⟩
      · exact Or.inl ⟨a, b, by omega, h2, h3, h4⟩
      · exact Or.inr ⟨fun a b hab hl => h1 a b (by omega) hl, h2⟩)
    rcases f with ⟨a, b, h1, h2, h3, h4⟩ | ⟨h1, h2⟩
    · exact Or.inl ⟨a, b, by omega, h2, h3, h4⟩
    · exact Or.inr ⟨fun a b hab hl => h1 a b (by omega) hl, h2⟩)
  unfold zrl
  rw [show ((top : Int) + 1 - 0).toNat = top + 1 by omega]
  rcases out with ⟨a, b, h1, h2, h3, h4⟩ | ⟨h1, h2⟩
  · exact Or.inl ⟨a, b, h2, h3, h4⟩
  · exact Or.inr ⟨fun a b hl => h1 a b (by omega) hl, h2⟩
/-- a line, back as numbers for TERMS -/
def kun {K : Type} [Lean.Grind.CommRing K] (top : Nat) (col : Nat → Int) (v : Nat → K) : Nat → Nat → K := fun i j => if i + j ≤ top ∧ 0 ≤ col (25 * i + j) then v (col (25 * i + j)).toNat else 0
/-- a row that is 0 where there is no column comes back -/
theorem kun_rl {K : Type} [Lean.Grind.CommRing K] {p : Int} {φ : Int → K} (h : zKp K p φ) {row col : Nat → Int} {top x y w : Nat} (ht : top ≤ 24) (hc : kCc top x y w col) (hz : ∀ A B : Nat, A + B ≤ top → x ≤ A → y ≤ B → row (25 * A + B) = 0) : kun top col (fun q => if q < w then φ (zrl row col top q) else 0) = krw φ top row := funext fun i => funext fun j => by
  unfold kun krw
  by_cases c : i + j ≤ top
  · rw [if_pos c]
    rcases hc.1 i j c with ⟨z1, z2, z3⟩ | ⟨z1, z2, z3⟩
    · rw [if_neg (by omega), hz i j c z1 z2, h.z]
    · rw [if_pos ⟨c, z2⟩]
      show (if (col (25 * i + j)).toNat < w then φ (zrl row col top (col (25 * i + j)).toNat) else 0) = _
      rw [if_pos (by omega)]
      rcases zrl_sp row col ht hc (col (25 * i + j)).toNat with ⟨a, b, h1, h2, h3⟩ | ⟨h1, h2⟩
      · obtain ⟨e1, e2⟩ := hc.2 a b i j h1 c (by omega) (by omega)
        rw [h3, e1, e2]
      · exact absurd (show col (25 * i + j) = ((col (25 * i + j)).toNat : Int) by omega) (h1 i j c)
  · rw [if_neg c, if_neg (fun z => c z.1)]
end ZIb
