section ZJi
theorem zwd_x01 {n : Int} {T : Nat → Int} {a : Int} : ¬ (¬ zwd n T 0 a = 0 ∧ ¬ zwd n T 1 a = 0) := fun z => by
  obtain ⟨⟨x0, x1, x2, x3, x4⟩, ⟨y0, y1, y2, y3, y4⟩, z0, w0⟩ := zchr_all
  have f0 := ((zwd_5 (n := n) (T := T) (i := 0) (a := a) zlen_all.1).1 z.1).2.1
  have f1 := ((zwd_5 (n := n) (T := T) (i := 1) (a := a) zlen_all.2.1).1 z.2).2.1
  omega
theorem zown_2 {n : Int} {T : Nat → Int} {a : Int} : zown n T a = 2 ↔ ¬ zwd n T 1 a = 0 := by
  have x := zwd_x01 (n := n) (T := T) (a := a)
  unfold zown
  by_cases c0 : zwd n T 0 a = 0
  · rw [if_pos c0]
    by_cases c1 : zwd n T 1 a = 0
    · rw [if_pos c1]
      split
      · split <;> omega
      · omega
    · rw [if_neg c1]
      omega
  · rw [if_neg c0]
    omega
theorem zown_1 {n : Int} {T : Nat → Int} {a : Int} : zown n T a = 1 ↔ ¬ zwd n T 0 a = 0 := by
  unfold zown
  by_cases c0 : zwd n T 0 a = 0
  · rw [if_pos c0]
    split
    · split
      · split <;> omega
      · omega
    · omega
  · rw [if_neg c0]
    omega
theorem zown_0 {n : Int} {T : Nat → Int} {a : Int} : zown n T a = 0 ↔ zwd n T 0 a = 0 ∧ zwd n T 1 a = 0 ∧ zwd n T 2 a = 0 ∧ zwd n T 3 a = 0 := by
  unfold zown
  by_cases c0 : zwd n T 0 a = 0
  · rw [if_pos c0]
    by_cases c1 : zwd n T 1 a = 0
    · rw [if_pos c1]
      by_cases c2 : zwd n T 2 a = 0
      · rw [if_pos c2]
        by_cases c3 : zwd n T 3 a = 0
        · rw [if_pos c3]
          omega
        · rw [if_neg c3]
          omega
      · rw [if_neg c2]
        omega
    · rw [if_neg c1]
      omega
  · rw [if_neg c0]
    omega
/-- the number of a NAME -/
def zvl (f : Nat → Int) : Nat → Int → Int
  | 0, v => v
  | j + 1, v => zvl f j (32 * v + f j)
def zl0 (f : Nat → Int) (len i : Nat) : Int := if i < len then f i else 0
theorem zvl_6 (f : Nat → Int) : ∀ len : Nat, len ≤ 6 → zvl f len 0 = zl0 f len 0 + 32 * zl0 f len 1 + 1024 * zl0 f len 2 + 32768 * zl0 f len 3 + 1048576 * zl0 f len 4 + 33554432 * zl0 f len 5
  | 0, _ => by simp [zvl, zl0]
  | 1, _ => by simp [zvl, zl0]
  | 2, _ => by simp [zvl, zl0]; omega
  | 3, _ => by simp [zvl, zl0]; omega
  | 4, _ => by simp [zvl, zl0]; omega
  | 5, _ => by simp [zvl, zl0]; omega
  | 6, _ => by simp [zvl, zl0]; omega
  | k + 7, h => absurd h (by omega)
theorem zp2_all : (2 : Int) ^ (5 * ((0 : Nat) : Int)).toNat = 1 ∧ (2 : Int) ^ (5 * ((1 : Nat) : Int)).toNat = 32 ∧ (2 : Int) ^ (5 * ((2 : Nat) : Int)).toNat = 1024 ∧ (2 : Int) ^ (5 * ((3 : Nat) : Int)).toNat = 32768 ∧ (2 : Int) ^ (5 * ((4 : Nat) : Int)).toNat = 1048576 ∧ (2 : Int) ^ (5 * ((5 : Nat) : Int)).toNat = 33554432 := by decide +kernel
theorem zl5_of {l : Nat → Int} (h : ∀ i, i < 6 → 0 ≤ l i ∧ l i ≤ 31) {v : Int} (hv : v = l 0 + 32 * l 1 + 1024 * l 2 + 32768 * l 3 + 1048576 * l 4 + 33554432 * l 5) : (0 ≤ v ∧ v < 1073741824) ∧ ∀ i : Nat, i < 6 → zlt5 v (5 * i) = l i := by
  obtain ⟨q0, q1, q2, q3, q4, q5⟩ := zp2_all
  have a0 := h 0 (by decide)
  have a1 := h 1 (by decide)
  have a2 := h 2 (by decide)
  have a3 := h 3 (by decide)
  have a4 := h 4 (by decide)
  have a5 := h 5 (by decide)
  refine ⟨by omega, fun i hi => ?_⟩
  unfold zlt5
  rcases (show i = 0 ∨ i = 1 ∨ i = 2 ∨ i = 3 ∨ i = 4 ∨ i = 5 by omega) with e | e | e | e | e | e
  · rw [e, q0]; omega
  · rw [e, q1]; omega
  · rw [e, q2]; omega
  · rw [e, q3]; omega
  · rw [e, q4]; omega
  · rw [e, q5]; omega
theorem zl5_inj {v w : Int} (hv : 0 ≤ v ∧ v < 1073741824) (hw : 0 ≤ w ∧ w < 1073741824) (h : ∀ i : Nat, i < 6 → zlt5 v (5 * i) = zlt5 w (5 * i)) : v = w := by
  obtain ⟨q0, q1, q2, q3, q4, q5⟩ := zp2_all
  have a0 := h 0 (by decide)
  have a1 := h 1 (by decide)
  have a2 := h 2 (by decide)
  have a3 := h 3 (by decide)
  have a4 := h 4 (by decide)
  have a5 := h 5 (by decide)
  unfold zlt5 at a0 a1 a2 a3 a4 a5
  rw [q0] at a0
  rw [q1] at a1
  rw [q2] at a2
  rw [q3] at a3
  rw [q4] at a4
  rw [q5] at a5
  omega
theorem zlk_m (lt : Nat → Int) (cn c : Int) : ∀ m : Nat, zfor (zalk_s lt cn c) 0 0 m ≤ m ∧ (zfor (zalk_s lt cn c) 0 0 m = m ↔ ∀ i : Nat, i < m → lt (cn * 6 + i).toNat = lt (c * 6 + i).toNat)
  | 0 => ⟨Int.le_refl _, fun _ i hi => absurd hi (by omega), fun _ => rfl⟩
  | m + 1 => by
    obtain ⟨a, b⟩ := zlk_m lt cn c m
    have e : zfor (zalk_s lt cn c) 0 0 (m + 1) = zalk_s lt cn c (0 + m) (zfor (zalk_s lt cn c) 0 0 m) := rfl
    rw [e]
    generalize zfor (zalk_s lt cn c) 0 0 m = x at a b ⊢
    unfold zalk_s
    rw [show (0 : Int) + (m : Int) = m by omega]
    by_cases d : lt (cn * 6 + m).toNat = lt (c * 6 + m).toNat
    · rw [if_pos d]
      refine ⟨by omega, fun h i hi => ?_, fun h => ?_⟩
      · by_cases e : i = m
        · rw [e]; exact d
        · exact b.1 (by omega) i (by omega)
      · have := b.2 (fun i hi => h i (by omega))
        omega
    · rw [if_neg d]
      exact ⟨by omega, fun h => by omega, fun h => absurd (h m (by omega)) d⟩
theorem zalk_6 (lt : Nat → Int) (cn c : Int) : zalk lt cn c = 6 ↔ ∀ i : Nat, i < 6 → lt (cn * 6 + i).toNat = lt (c * 6 + i).toNat := (zlk_m lt cn c 6).2
theorem zntF_e (lt : Nat → Int) (cn : Int) : ∀ (m : Nat) (c : Int), (zntF lt cn m c = 0 ↔ ∀ j : Nat, j < m → ¬ zalk lt cn (c + j) = 6)
  | 0, c => ⟨fun _ j hj => absurd hj (by omega), fun _ => rfl⟩
  | m + 1, c => by
    simp only [zntF]
    by_cases e : zalk lt cn c = 6
    · rw [if_pos e]
      refine ⟨fun z => absurd z (by decide), fun z => absurd e ?_⟩
      have := z 0 (by omega)
      rw [show c + ((0 : Nat) : Int) = c by omega] at this
      exact this
    · rw [if_neg e, zntF_e lt cn m (c + 1)]
      refine ⟨fun h j hj => ?_, fun h j hj => ?_⟩
      · cases j with
        | zero =>
          rw [show c + ((0 : Nat) : Int) = c by omega]
          exact e
        | succ j =>
          have := h j (by omega)
          rw [show c + 1 + (j : Int) = c + ((j + 1 : Nat) : Int) by omega] at this
          exact this
      · have := h (j + 1) (by omega)
        rw [show c + ((j + 1 : Nat) : Int) = c + 1 + (j : Int) by omega] at this
        exact this
/-- the letters that are laid -/
def zltv (n : Int) (T : Nat → Int) (a len : Int) (i : Nat) : Int := if (i : Int) < len then zby n T (a + i) - 96 else 0
theorem zltr_e {n : Int} {T : Nat → Int} {c : Nat} (hc : c < 6) (a len : Int) (l : Nat → Int) (q : Nat) : zltr n T c a len l q = if 6 * c ≤ q ∧ q < 6 * c + 6 then zltv n T a len (q - 6 * c) else l q := by
  have key : ∀ m : Nat, m ≤ 6 → ∀ q : Nat, zfor (zltr_s n T c a len) 0 l m q = if 6 * c ≤ q ∧ q < 6 * c + m then zltv n T a len (q - 6 * c) else l q := by
    intro m
    induction m with
    | zero =>
      intro _ q
      rw [if_neg (by omega)]
      rfl
    | succ m ih =>
      intro hm q
      have e : zfor (zltr_s n T c a len) 0 l (m + 1) = zltr_s n T c a len (0 + m) (zfor (zltr_s n T c a len) 0 l m) := rfl
      rw [e]
      have ih' := ih (by omega)
      generalize zfor (zltr_s n T c a len) 0 l m = x at ih' ⊢
      unfold zltr_s zsetL
      rw [if_pos (show ((c : Int) < 6 ∧ 0 ≤ (0 : Int) + m ∧ (0 : Int) + m < 6) by omega), zup_ap, show ((c : Int) * 6 + (0 + (m : Int))).toNat = 6 * c + m by omega, show (0 : Int) + (m : Int) = m by omega]
      by_cases e : q = 6 * c + m
      · rw [if_pos e, if_pos (show 6 * c ≤ q ∧ q < 6 * c + (m + 1) by omega), show q - 6 * c = m by omega]
        unfold zltv
        split <;> omega
      · rw [if_neg e, ih' q]
        by_cases d : 6 * c ≤ q ∧ q < 6 * c + m
        · rw [if_pos d, if_pos (show 6 * c ≤ q ∧ q < 6 * c + (m + 1) by omega)]
        · rw [if_neg d, if_neg (show ¬ (6 * c ≤ q ∧ q < 6 * c + (m + 1)) by omega)]
  exact key 6 (Nat.le_refl _) q
end ZJi
