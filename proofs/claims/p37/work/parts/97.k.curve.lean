section ZJk
/-- what the reading of CURVES may change -/
def zDf (S S' : zS2) : Prop := ∀ a i : Nat, ¬ (a = 0 ∧ ((6 ≤ i ∧ i ≤ 9) ∨ i = 15 ∨ i = 19)) → a ≠ 4 → a ≠ 7 → a ≠ 8 → ¬ (a = 3 ∧ 150 ≤ i) → ¬ (a = 5 ∧ 6 ≤ i) → S' a i = S a i
theorem zDf.rf {S : zS2} : zDf S S := fun _ _ _ _ _ _ _ _ => rfl
theorem zDf.tr {S S' S'' : zS2} (h : zDf S S') (h2 : zDf S' S'') : zDf S S'' := fun a i a1 a2 a3 a4 a5 a6 => (h2 a i a1 a2 a3 a4 a5 a6).trans (h a i a1 a2 a3 a4 a5 a6)
theorem zPf.df {S S' : zS2} (h : zPf S S') : zDf S S' := fun a i a1 a2 a3 a4 a5 _ => h a i (by omega) a2 a3 a4 (by omega)
theorem zFs.df {S S' : zS2} (h : zFs S S') : zDf S S' := h.pf.df
def zcuG (S : zS2) : zS2 := za S 0 15 (S 0 15 + 1)
theorem zwe_stopF {n : Int} {T : Nat → Int} : ∀ (k : Nat) (a : Int), a + k = n → ¬ (97 ≤ zby n T (zweF n T k a) ∧ zby n T (zweF n T k a) ≤ 122)
  | 0, a, h => by
    simp only [zweF]
    rw [zby_n (by omega)]
    omega
  | k + 1, a, h => by
    simp only [zweF]
    by_cases c : 97 ≤ zby n T a ∧ zby n T a ≤ 122
    · rw [if_pos c]
      exact zwe_stopF k (a + 1) (by omega)
    · rw [if_neg c]
      exact c
theorem zwe_stop {n : Int} {T : Nat → Int} {a : Int} (h : a ≤ n) : ¬ (97 ≤ zby n T (zwe n T a) ∧ zby n T (zwe n T a) ≤ 122) := zwe_stopF (n - a).toNat a (by omega)
theorem zsk_blF {n : Int} {T : Nat → Int} : ∀ (k : Nat) (a : Int), zskF n T k a ≠ a → zop n T (zskF n T k a)
  | 0, a, h => absurd rfl h
  | k + 1, a, h => by
    simp only [zskF] at h ⊢
    by_cases c : zby n T a = 10 ∨ zby n T a = 32
    · rw [if_pos c]
      refine zop_skF k (a + 1) ⟨?_, ?_⟩
      · rw [show a + 1 - 1 = a by omega]; omega
      · rw [show a + 1 - 1 = a by omega]
        unfold zdig
        rw [if_neg (by omega)]
    · rw [if_neg c] at h
      exact absurd rfl h
theorem zsk_bl {n : Int} {T : Nat → Int} {a : Int} (h : zsk n T a ≠ a) : zop n T (zsk n T a) := zsk_blF _ _ h
theorem zDr.nm {p : Int} {Q S Q' S' : zS2} (h : zDr p Q S) (h4 : Q' 0 4 = Q 0 4) (hk : ∀ k, k ≠ 0 → k ≠ 1 → Q' k = Q k) (h1 : ∀ q : Nat, (q : Int) < 6 * Q 0 4 → Q' 1 q = Q 1 q) (hS : zFs S S') : zDr p Q' S' := by
  obtain ⟨a, b, c⟩ := h
  refine ⟨by rw [hS 0 15 (by omega), h4]; exact a, by rw [h4]; exact b, fun k hkk => ?_⟩
  rw [h4] at hkk
  obtain ⟨⟨c1, c2, c3, c4⟩, c5, c6, c7⟩ := c k hkk
  have q := hk (7 + k) (by omega) (by omega)
  have f5 : ∀ i, S' 5 i = S 5 i := fun i => hS 5 i (by omega)
  refine ⟨⟨?_, by rw [q]; exact c2, by rw [q]; exact c3, by rw [q]; exact c4⟩, fun i hi => ?_, by rw [f5]; exact c6, by rw [f5]; exact c7⟩
  · rw [q]
    exact c1.fr (fun i _ _ => hS 3 i (by omega))
  · rw [f5, h1 _ (by omega)]
    exact c5 i hi
theorem zsd_0 (Q : zS2) (a c : Int) : zsd Q a c 0 3 = a ∧ zsd Q a c 0 4 = c ∧ (∀ j, j ≠ 3 → j ≠ 4 → zsd Q a c 0 j = Q 0 j) ∧ ∀ k, k ≠ 0 → zsd Q a c k = Q k := by
  unfold zsd
  refine ⟨?_, ?_, fun j h3 h4 => ?_, fun k hk => zset_ne _ _ hk⟩
  · rw [zset_self]; rfl
  · rw [zset_self]; rfl
  · rw [zset_self]
    show (if j = 3 then a else if j = 4 then c else Q 0 j) = _
    rw [if_neg h3, if_neg h4]
end ZJk
