section ZJb
theorem zsr_0 (Q : zS2) (a b c : Int) : zsr Q a b c 0 0 = a ∧ zsr Q a b c 0 1 = b ∧ zsr Q a b c 0 2 = c ∧ (∀ j, 3 ≤ j → zsr Q a b c 0 j = Q 0 j) ∧ ∀ k, k ≠ 0 → zsr Q a b c k = Q k := by
  unfold zsr
  refine ⟨?_, ?_, ?_, fun j hj => ?_, fun k hk => zset_ne _ _ hk⟩
  · rw [zset_self]; rfl
  · rw [zset_self]; rfl
  · rw [zset_self]; rfl
  · rw [zset_self]
    show (if j = 0 then a else if j = 1 then b else if j = 2 then c else Q 0 j) = _
    rw [if_neg (by omega), if_neg (by omega), if_neg (by omega)]
/-- the two scanners -/
def zPs (n : Int) (T : Nat → Int) (p : Int) (Q S : zS2) : Prop := zU n T S ∧ S 0 8 = 0 ∧ S 0 6 = Q 0 0 ∧ (0 ≤ Q 0 0 ∧ Q 0 0 ≤ n) ∧ Q 0 3 = p ∧ S 0 10 = p
theorem zPs.pos {n : Int} {T : Nat → Int} {p : Int} {Q S : zS2} (h : zPs n T p Q S) : 0 ≤ S 0 6 ∧ S 0 6 ≤ n := by rw [h.2.2.1]; exact h.2.2.2.1
theorem zPs.mv {n : Int} {T : Nat → Int} {p : Int} {Q S Q' S' : zS2} (h : zPs n T p Q S) (hf : zFs S S') (h8 : S' 0 8 = 0) (h3 : Q' 0 3 = Q 0 3) (h6 : S' 0 6 = Q' 0 0) (hr : 0 ≤ Q' 0 0 ∧ Q' 0 0 ≤ n) : zPs n T p Q' S' := ⟨h.1.fs hf, h8, h6, hr, h3.trans h.2.2.2.2.1, (hf 0 10 (by omega)).trans h.2.2.2.2.2⟩
theorem zwd_sm {n : Int} {T : Nat → Int} {i : Nat} (hi : i < 4) {a : Int} (h : ¬ zwd n T i a = 0) : (97 ≤ zby n T a ∧ zby n T a ≤ 122) ∧ zwe n T a = a + zlen i := by
  have l := zwd_len h
  have r := zlen_rng i hi
  refine ⟨Classical.byContradiction fun z => ?_, l⟩
  have e : zwe n T a = a := by
    unfold zwe
    cases hk : (n - a).toNat with
    | zero => rfl
    | succ k =>
      simp only [zweF]
      rw [if_neg z]
  omega
theorem zwd_5 {n : Int} {T : Nat → Int} {i : Nat} {a : Int} (hl : zlen i = 5) : ¬ zwd n T i a = 0 ↔ zwe n T a - a = 5 ∧ zby n T a = zchr i 0 ∧ zby n T (a + 1) = zchr i 1 ∧ zby n T (a + 2) = zchr i 2 ∧ zby n T (a + 3) = zchr i 3 ∧ zby n T (a + 4) = zchr i 4 := by
  unfold zwd
  rw [hl]
  by_cases c : zwe n T a - a = 5
  · rw [if_pos c, show ((5 : Int) - 0).toNat = 5 by decide]
    simp only [zwdF]
    rw [show a + 0 = a by omega, show (0 : Int).toNat = 0 by decide, show (0 + 1 : Int).toNat = 1 by decide, show (0 + 1 + 1 : Int).toNat = 2 by decide, show (0 + 1 + 1 + 1 : Int).toNat = 3 by decide, show (0 + 1 + 1 + 1 + 1 : Int).toNat = 4 by decide, show a + (0 + 1) = a + 1 by omega, show a + (0 + 1 + 1) = a + 2 by omega, show a + (0 + 1 + 1 + 1) = a + 3 by omega, show a + (0 + 1 + 1 + 1 + 1) = a + 4 by omega]
    by_cases c0 : zby n T a = zchr i 0
    · rw [if_pos c0]
      by_cases c1 : zby n T (a + 1) = zchr i 1
      · rw [if_pos c1]
        by_cases c2 : zby n T (a + 2) = zchr i 2
        · rw [if_pos c2]
          by_cases c3 : zby n T (a + 3) = zchr i 3
          · rw [if_pos c3]
            by_cases c4 : zby n T (a + 4) = zchr i 4
            · rw [if_pos c4]
              exact ⟨fun _ => ⟨c, c0, c1, c2, c3, c4⟩, fun _ => by decide⟩
            · rw [if_neg c4]
              exact ⟨fun z => absurd rfl z, fun z => absurd z.2.2.2.2.2 c4⟩
          · rw [if_neg c3]
            exact ⟨fun z => absurd rfl z, fun z => absurd z.2.2.2.2.1 c3⟩
        · rw [if_neg c2]
          exact ⟨fun z => absurd rfl z, fun z => absurd z.2.2.2.1 c2⟩
      · rw [if_neg c1]
        exact ⟨fun z => absurd rfl z, fun z => absurd z.2.2.1 c1⟩
    · rw [if_neg c0]
      exact ⟨fun z => absurd rfl z, fun z => absurd z.2.1 c0⟩
  · rw [if_neg c]
    exact ⟨fun z => absurd rfl z, fun z => absurd z.1 c⟩
theorem zwd_1 {n : Int} {T : Nat → Int} {i : Nat} {a : Int} (hl : zlen i = 1) : ¬ zwd n T i a = 0 ↔ zwe n T a - a = 1 ∧ zby n T a = zchr i 0 := by
  unfold zwd
  rw [hl]
  by_cases c : zwe n T a - a = 1
  · rw [if_pos c, show ((1 : Int) - 0).toNat = 1 by decide]
    simp only [zwdF]
    rw [show a + 0 = a by omega, show (0 : Int).toNat = 0 by decide]
    by_cases c0 : zby n T a = zchr i 0
    · rw [if_pos c0]
      exact ⟨fun _ => ⟨c, c0⟩, fun _ => by decide⟩
    · rw [if_neg c0]
      exact ⟨fun z => absurd rfl z, fun z => absurd z.2 c0⟩
  · rw [if_neg c]
    exact ⟨fun z => absurd rfl z, fun z => absurd z.1 c⟩
theorem zchr_all : (zchr 0 0 = 102 ∧ zchr 0 1 = 105 ∧ zchr 0 2 = 101 ∧ zchr 0 3 = 108 ∧ zchr 0 4 = 100) ∧ (zchr 1 0 = 99 ∧ zchr 1 1 = 117 ∧ zchr 1 2 = 114 ∧ zchr 1 3 = 118 ∧ zchr 1 4 = 101) ∧ zchr 2 0 = 120 ∧ zchr 3 0 = 121 := by decide +kernel
theorem zlen_all : zlen 0 = 5 ∧ zlen 1 = 5 ∧ zlen 2 = 1 ∧ zlen 3 = 1 := ⟨rfl, rfl, rfl, rfl⟩
/-- which word it was -/
def zown (n : Int) (T : Nat → Int) (a : Int) : Int := if zwd n T 0 a = 0 then (if zwd n T 1 a = 0 then (if zwd n T 2 a = 0 then (if zwd n T 3 a = 0 then 0 else 4) else 3) else 2) else 1
theorem zwe_r {n : Int} {T : Nat → Int} {a : Int} (h : 0 ≤ a ∧ a ≤ n) : a ≤ zwe n T a ∧ zwe n T a ≤ n := zwe_rng h
end ZJb
