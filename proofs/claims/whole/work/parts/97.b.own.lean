section ZJb
theorem zsr_0 (Q : zS2) (a b c : Int) : zsr Q a b c 0 0 = a ∧ zsr Q a b c 0 1 = b ∧ zsr Q a b c 0 2 = c ∧ (∀ j, 3 ≤ j → zsr Q a b c 0 j = Q 0 j) ∧ ∀ k, k ≠ 0 → zsr Q a b c k = Q k := by
  unfold zsr
  refine ⟨?_, ?_, ?_, fun j hj => ?_, fun k hk => zset_ne _ _ hk⟩
  · rw [zset_self]; rfl
  · rw [zset_self]; rfl
  · rw [zset_self]; rfl
  · rw [zset_self]
    show (if j = 0 then a else if j = 1 then b else if j = 2 then c else Q 0 j) = _
    rw [if_neg (by omega), if_neg (by omega), if_neg (by omega)]
/-- the two scanners -/
def zPs (n : Int) (T : Nat → Int) (p : Int) (Q S : zS2) : Prop := zU n T S ∧ S 0 8 = 0 ∧ S 0 6 = Q 0 0 ∧ (0 ≤ Q 0 0 ∧ Q 0 0 ≤ n) ∧ Q 0 3 = p ∧ S 0 10 = p
theorem zPs.pos {n : Int} {T : Nat → Int} {p : Int} {Q S : zS2} (h : zPs n T p Q S) : 0 ≤ S 0 6 ∧ S 0 6 ≤ n := by rw [h.2.2.1]; exact h.2.2.2.1
theorem zPs.mv {n : Int} {T : Nat → Int} {p : Int} {Q S Q' S' : zS2} (h : zPs n T p Q S) (hf : zFs S S') (h8 : S' 0 8 = 0) (h3 : Q' 0 3 = Q 0 3) (h6 : S' 0 6 = Q' 0 0) (hr : 0 ≤ Q' 0 0 ∧ Q' 0 0 ≤ n) : zPs n T p Q' S' := ⟨h.1.fs hf, h8, h6, hr, h3.trans h.2.2.2.2.1, (hf 0 10 (by omega)).trans h.2.2.2.2.2⟩
/-- is a sign there -/
theorem zs_isM {n : Int} {T : Nat → Int} {S : zS2} (h : zU n T S) (ha : 0 ≤ S 0 6 ∧ S 0 6 ≤ n) (h8 : S 0 8 = 0) (c : Int) : zm_isMark S c = (if zby n T (zsk n T (S 0 6)) = c then 1 else 0, za S 0 6 (zsk n T (S 0 6))) := by
  have e0 : zm_goesWell S = 1 := if_pos h8
  unfold zm_isMark
  rw [e0, zlet_v, if_neg (by decide), zs_here h ha, zlet_v]
  dsimp only
  split <;> rfl
/-- a sign is asked -/
theorem zs_mark {n : Int} {T : Nat → Int} {S : zS2} (h : zU n T S) (ha : 0 ≤ S 0 6 ∧ S 0 6 ≤ n) (h8 : S 0 8 = 0) (c : Int) : (zby n T (zsk n T (S 0 6)) = c ∧ zFs S (zm_mark S c) ∧ (zm_mark S c) 0 8 = 0 ∧ (zm_mark S c) 0 7 = S 0 7 ∧ (zm_mark S c) 0 6 = zsk n T (S 0 6) + 1) ∨ (zby n T (zsk n T (S 0 6)) ≠ c ∧ zft S (zm_mark S c) 1 (zsk n T (S 0 6))) := by
  have e0 : zm_goesWell S = 1 := if_pos h8
  obtain ⟨S1, hS1⟩ : ∃ S1, S1 = za S 0 6 (zsk n T (S 0 6)) := ⟨_, rfl⟩
  have f1 : zFs S S1 := by rw [hS1]; exact zFs.rf.za (by omega) _
  have s6 : S1 0 6 = zsk n T (S 0 6) := by rw [hS1, za_same]
  have s8 : S1 0 8 = 0 := by rw [hS1, za_ne (by omega), h8]
  have e : zm_mark S c = if zby n T (zsk n T (S 0 6)) = c then za S1 0 6 (S1 0 6 + 1) else zm_faults S1 1 (S1 0 6) := by
    unfold zm_mark
    rw [e0, zlet_v, if_neg (by decide), zs_here h ha, ← hS1, zlet_v]
    dsimp only
    rw [zlet_v, zlet_v]
  rw [e]
  by_cases q : zby n T (zsk n T (S 0 6)) = c
  · rw [if_pos q]
    exact Or.inl ⟨q, f1.za (by omega) _, by rw [za_ne (by omega), s8], by rw [za_ne (by omega), hS1, za_ne (by omega)], by rw [za_same, s6]⟩
  · rw [if_neg q, s6]
    exact Or.inr ⟨q, zs_flt s8 f1 _ _⟩
theorem zwd_sm {n : Int} {T : Nat → Int} {i : Nat} (hi : i < 4) {a : Int} (h : ¬ zwd n T i a = 0) : (97 ≤ zby n T a ∧ zby n T a ≤ 122) ∧ zwe n T a = a + zlen i := by
  have l := zwd_len h
  have r := zlen_rng i hi
  refine ⟨Classical.byContradiction fun z => ?_, l⟩
  have e : zwe n T a = a := by
    unfold zwe
    cases hk : (n - a).toNat with
    | zero => rfl
    | succ k =>
      simp only [zweF]
      rw [if_neg z]
  omega
theorem zwd_5 {n : Int} {T : Nat → Int} {i : Nat} {a : Int} (hl : zlen i = 5) : ¬ zwd n T i a = 0 ↔ zwe n T a - a = 5 ∧ zby n T a = zchr i 0 ∧ zby n T (a + 1) = zchr i 1 ∧ zby n T (a + 2) = zchr i 2 ∧ zby n T (a + 3) = zchr i 3 ∧ zby n T (a + 4) = zchr i 4 := by
  unfold zwd
  rw [hl]
  by_cases c : zwe n T a - a = 5
  · rw [if_pos c, show ((5 : Int) - 0).toNat = 5 by decide]
    simp only [zwdF]
    rw [show a + 0 = a by omega, show (0 : Int).toNat = 0 by decide, show (0 + 1 : Int).toNat = 1 by decide, show (0 + 1 + 1 : Int).toNat = 2 by decide, show (0 + 1 + 1 + 1 : Int).toNat = 3 by decide, show (0 + 1 + 1 + 1 + 1 : Int).toNat = 4 by decide, show a + (0 + 1) = a + 1 by omega, show a + (0 + 1 + 1) = a + 2 by omega, show a + (0 + 1 + 1 + 1) = a + 3 by omega, show a + (0 + 1 + 1 + 1 + 1) = a + 4 by omega]
    by_cases c0 : zby n T a = zchr i 0
    · rw [if_pos c0]
      by_cases c1 : zby n T (a + 1) = zchr i 1
      · rw [if_pos c1]
        by_cases c2 : zby n T (a + 2) = zchr i 2
        · rw [if_pos c2]
          by_cases c3 : zby n T (a + 3) = zchr i 3
          · rw [if_pos c3]
            by_cases c4 : zby n T (a + 4) = zchr i 4
            · rw [if_pos c4]
              exact ⟨fun _ => ⟨c, c0, c1, c2, c3, c4⟩, fun _ => by decide⟩
            · rw [if_neg c4]
              exact ⟨fun z => absurd rfl z, fun z => absurd z.2.2.2.2.2 c4⟩
          · rw [if_neg c3]
            exact ⟨fun z => absurd rfl z, fun z => absurd z.2.2.2.2.1 c3⟩
        · rw [if_neg c2]
          exact ⟨fun z => absurd rfl z, fun z => absurd z.2.2.2.1 c2⟩
      · rw [if_neg c1]
        exact ⟨fun z => absurd rfl z, fun z => absurd z.2.2.1 c1⟩
    · rw [if_neg c0]
      exact ⟨fun z => absurd rfl z, fun z => absurd z.2.1 c0⟩
  · rw [if_neg c]
    exact ⟨fun z => absurd rfl z, fun z => absurd z.1 c⟩
theorem zwd_1 {n : Int} {T : Nat → Int} {i : Nat} {a : Int} (hl : zlen i = 1) : ¬ zwd n T i a = 0 ↔ zwe n T a - a = 1 ∧ zby n T a = zchr i 0 := by
  unfold zwd
  rw [hl]
  by_cases c : zwe n T a - a = 1
  · rw [if_pos c, show ((1 : Int) - 0).toNat = 1 by decide]
    simp only [zwdF]
    rw [show a + 0 = a by omega, show (0 : Int).toNat = 0 by decide]
    by_cases c0 : zby n T a = zchr i 0
    · rw [if_pos c0]
      exact ⟨fun _ => ⟨c, c0⟩, fun _ => by decide⟩
    · rw [if_neg c0]
      exact ⟨fun z => absurd rfl z, fun z => absurd z.2 c0⟩
  · rw [if_neg c]
    exact ⟨fun z => absurd rfl z, fun z => absurd z.1 c⟩
theorem zchr_all : (zchr 0 0 = 102 ∧ zchr 0 1 = 105 ∧ zchr 0 2 = 101 ∧ zchr 0 3 = 108 ∧ zchr 0 4 = 100) ∧ (zchr 1 0 = 99 ∧ zchr 1 1 = 117 ∧ zchr 1 2 = 114 ∧ zchr 1 3 = 118 ∧ zchr 1 4 = 101) ∧ zchr 2 0 = 120 ∧ zchr 3 0 = 121 := by decide +kernel
theorem zlen_all : zlen 0 = 5 ∧ zlen 1 = 5 ∧ zlen 2 = 1 ∧ zlen 3 = 1 := ⟨rfl, rfl, rfl, rfl⟩
theorem zs_spell5 {n : Int} {T : Nat → Int} {S : zS2} (h : zU n T S) (hb : 0 ≤ S 0 7) (he : S 0 6 ≤ n) {a b c d e : Int} (hb0 : ¬ b = 0) : zm_isSpelled S a b c d e = bI (S 0 6 - S 0 7 = 5 ∧ zby n T (S 0 7) = a ∧ zby n T (S 0 7 + 1) = b ∧ zby n T (S 0 7 + 2) = c ∧ zby n T (S 0 7 + 3) = d ∧ zby n T (S 0 7 + 4) = e) := by
  have h1 := h.1
  unfold zm_isSpelled zm_isSpelled_J1
  rw [if_neg hb0, zlet_v]
  by_cases l : S 0 6 - S 0 7 = 5
  · have r : ∀ j : Nat, j < 5 → S 1 (S 0 7 + j).toNat = zby n T (S 0 7 + j) := fun j hj => by
      unfold zby
      rw [if_pos (by omega)]
      exact h.2.2 _ (by omega)
    have r0 := r 0 (by decide)
    rw [show S 0 7 + ((0 : Nat) : Int) = S 0 7 by omega] at r0
    rw [if_pos l, r0, show S 0 7 + 1 = S 0 7 + ((1 : Nat) : Int) from rfl, r 1 (by decide), show S 0 7 + 2 = S 0 7 + ((2 : Nat) : Int) from rfl, r 2 (by decide), show S 0 7 + 3 = S 0 7 + ((3 : Nat) : Int) from rfl, r 3 (by decide), show S 0 7 + 4 = S 0 7 + ((4 : Nat) : Int) from rfl, r 4 (by decide), if_neg (show ¬ (5 : Int) = 1 by decide)]
    by_cases c0 : zby n T (S 0 7) = a
    · rw [if_pos c0]
      by_cases c1 : zby n T (S 0 7 + ((1 : Nat) : Int)) = b
      · rw [if_pos c1]
        by_cases c2 : zby n T (S 0 7 + ((2 : Nat) : Int)) = c
        · rw [if_pos c2]
          by_cases c3 : zby n T (S 0 7 + ((3 : Nat) : Int)) = d
          · rw [if_pos c3]
            by_cases c4 : zby n T (S 0 7 + ((4 : Nat) : Int)) = e
            · rw [if_pos c4, bI_t ⟨l, c0, c1, c2, c3, c4⟩]
            · rw [if_neg c4, bI_f (fun z => c4 z.2.2.2.2.2)]
          · rw [if_neg c3, bI_f (fun z => c3 z.2.2.2.2.1)]
        · rw [if_neg c2, bI_f (fun z => c2 z.2.2.2.1)]
      · rw [if_neg c1, bI_f (fun z => c1 z.2.2.1)]
    · rw [if_neg c0, bI_f (fun z => c0 z.2.1)]
  · rw [if_neg l, bI_f (fun z => l z.1)]
theorem zs_spell1 {n : Int} {T : Nat → Int} {S : zS2} (h : zU n T S) (hb : 0 ≤ S 0 7) (he : S 0 6 ≤ n) {a : Int} : zm_isSpelled S a 0 0 0 0 = bI (S 0 6 - S 0 7 = 1 ∧ zby n T (S 0 7) = a) := by
  have h1 := h.1
  unfold zm_isSpelled zm_isSpelled_J1
  rw [if_pos rfl, zlet_v]
  by_cases l : S 0 6 - S 0 7 = 1
  · have r0 : S 1 (S 0 7).toNat = zby n T (S 0 7) := by
      unfold zby
      rw [if_pos (by omega)]
      exact h.2.2 _ (by omega)
    rw [if_pos l, r0, if_pos (show (1 : Int) = 1 from rfl)]
    by_cases c0 : zby n T (S 0 7) = a
    · rw [if_pos c0, bI_t ⟨l, c0⟩]
    · rw [if_neg c0, bI_f (fun z => c0 z.2)]
  · rw [if_neg l, bI_f (fun z => l z.1)]
/-- which word it was -/
def zown (n : Int) (T : Nat → Int) (a : Int) : Int := if zwd n T 0 a = 0 then (if zwd n T 1 a = 0 then (if zwd n T 2 a = 0 then (if zwd n T 3 a = 0 then 0 else 4) else 3) else 2) else 1
theorem zs_own {n : Int} {T : Nat → Int} {S : zS2} (h : zU n T S) (hb : 0 ≤ S 0 7) (he : S 0 6 ≤ n) (hw : S 0 6 = zwe n T (S 0 7)) : zm_own S = zown n T (S 0 7) := by
  obtain ⟨⟨x0, x1, x2, x3, x4⟩, ⟨y0, y1, y2, y3, y4⟩, z0, w0⟩ := zchr_all
  have f0 := zwd_5 (n := n) (T := T) (i := 0) (a := S 0 7) zlen_all.1
  have f1 := zwd_5 (n := n) (T := T) (i := 1) (a := S 0 7) zlen_all.2.1
  have f2 := zwd_1 (n := n) (T := T) (i := 2) (a := S 0 7) zlen_all.2.2.1
  have f3 := zwd_1 (n := n) (T := T) (i := 3) (a := S 0 7) zlen_all.2.2.2
  rw [x0, x1, x2, x3, x4, ← hw] at f0
  rw [y0, y1, y2, y3, y4, ← hw] at f1
  rw [z0, ← hw] at f2
  rw [w0, ← hw] at f3
  unfold zm_own zown
  rw [zs_spell5 h hb he (by decide), zs_spell5 h hb he (by decide), zs_spell1 h hb he, zs_spell1 h hb he]
  by_cases c0 : zwd n T 0 (S 0 7) = 0
  · rw [if_pos c0, bI_f (fun z => f0.2 z c0), zlet_v, if_pos rfl]
    by_cases c1 : zwd n T 1 (S 0 7) = 0
    · rw [if_pos c1, bI_f (fun z => f1.2 z c1), zlet_v, if_pos rfl]
      by_cases c2 : zwd n T 2 (S 0 7) = 0
      · rw [if_pos c2, bI_f (fun z => f2.2 z c2), zlet_v, if_pos rfl]
        by_cases c3 : zwd n T 3 (S 0 7) = 0
        · rw [if_pos c3, bI_f (fun z => f3.2 z c3), zlet_v, if_pos rfl]
        · rw [if_neg c3, bI_t (f3.1 c3), zlet_v, if_neg (by decide)]
      · rw [if_neg c2, bI_t (f2.1 c2), zlet_v, if_neg (by decide)]
    · rw [if_neg c1, bI_t (f1.1 c1), zlet_v, if_neg (by decide)]
  · rw [if_neg c0, bI_t (f0.1 c0), zlet_v, if_neg (by decide)]
theorem zwe_r {n : Int} {T : Nat → Int} {a : Int} (h : 0 ≤ a ∧ a ≤ n) : a ≤ zwe n T a ∧ zwe n T a ≤ n := zwe_rng h
/-- which word comes -/
theorem zs_comes {n : Int} {T : Nat → Int} {S : zS2} (h : zU n T S) (ha : 0 ≤ S 0 6 ∧ S 0 6 ≤ n) (h8 : S 0 8 = 0) : ∃ z S', zm_comes S = (z, S') ∧ zFs S S' ∧ S' 0 8 = 0 ∧ S' 0 9 = S 0 9 ∧ S' 0 6 = zsk n T (S 0 6) ∧ ((¬ zwdh n T (zsk n T (S 0 6)) ∧ z = -1) ∨ (zwdh n T (zsk n T (S 0 6)) ∧ z = zown n T (zsk n T (S 0 6)))) := by
  obtain ⟨S1, hS1⟩ : ∃ S1, S1 = za S 0 6 (zsk n T (S 0 6)) := ⟨_, rfl⟩
  have f1 : zFs S S1 := by rw [hS1]; exact zFs.rf.za (by omega) _
  have s6 : S1 0 6 = zsk n T (S 0 6) := by rw [hS1, za_same]
  have s8 : S1 0 8 = 0 := by rw [hS1, za_ne (by omega), h8]
  have s9 : S1 0 9 = S 0 9 := by rw [hS1, za_ne (by omega)]
  have r := zsk_r (T := T) ha
  have h1 := h.fs f1
  have id := zsk_id (T := T) ha
  by_cases c : zwdh n T (zsk n T (S 0 6))
  · have e : zm_comes S = (zm_own (zm_word S1), za (zm_word S1) 0 6 (S1 0 6)) := by
      unfold zm_comes
      generalize zm_word = W
      generalize zm_own = O
      rw [zs_isw h ha h8, bI_t c, ← hS1]
      simp only [zlet_v]
      rw [if_neg (by decide)]
    have w := zs_word h1 (by omega) s8
    rw [s6, id] at w
    rcases w with ⟨w1, _⟩ | ⟨_, w2, w3, w4, w5, w6⟩
    · exact absurd c w1
    · have o := zs_own (S := zm_word S1) (h1.fs w2) (by rw [w5]; omega) (by rw [w6]; exact (zwe_r (by omega)).2) (by rw [w5, w6])
      rw [w5] at o
      refine ⟨_, _, e, (f1.tr w2).za (by omega) _, by rw [za_ne (by omega), w3], by rw [za_ne (by omega), w4, s9], by rw [za_same, s6], Or.inr ⟨c, o⟩⟩
  · have e : zm_comes S = (-1, S1) := by
      unfold zm_comes
      generalize zm_word = W
      generalize zm_own = O
      rw [zs_isw h ha h8, bI_f c, ← hS1]
      simp only [zlet_v]
      rw [if_pos trivial]
    exact ⟨-1, S1, e, f1, s8, s9, s6, Or.inl ⟨c, rfl⟩⟩
end ZJb
