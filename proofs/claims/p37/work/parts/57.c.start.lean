section ZCz
theorem zz00 : zone 0 = fun _ => (0 : Int) := by
  funext k
  unfold zone
  split <;> rfl
theorem zz0k (k : Nat) : zone 0 k = 0 := by rw [zz00]
theorem zz0c {p : Int} (hp : 0 < p) : zcan p (zone 0) := zone_can hp ⟨Int.le_refl _, hp⟩
/-- the reader at the start -/
def zRS0 : zS2 := fun k => if k = 0 then (fun i => if i = 2 then -1 else if i = 3 then 7 else 0) else zone 0
theorem zRS0_ne {k : Nat} (h : k ≠ 0) : zRS0 k = zone 0 := if_neg h
/-- numbers and rows at the start -/
def zA0 : zS2 := fun k => if k = 0 then (fun i => if i = 1 then -1 else if i = 3 then 7 else if i = 12 then 1 else if i = 13 then 7 else if i = 14 then 7 else if i = 16 then 7 else if i = 17 then 7 else 0) else if k = 40 then (fun _ => 7) else if k = 41 then (fun _ => 0) else zone 0
def zM0 : zCt := (zA0, fun _ => zone 0, fun _ => zone 0, fun _ _ => zone 0, zRS0)
theorem zrdr0 {cI cP cZ : ClassId} {g : Nat → va_E} {a : Nat} (h : zReaderI cI cP cZ g a) : zRdr cI cP cZ g a 0 (zone 0) zRS0 := by
  intro j hj
  obtain ⟨⟨h0, hs, h16, h19, h20, h21, h23, h25⟩, h17, h18, hp⟩ := h
  unfold zrp
  by_cases e0 : j = 0
  · rw [if_pos e0, e0]; exact h0
  rw [if_neg e0]
  by_cases e1 : j = 1
  · rw [if_pos e1, e1]; exact hs.1
  rw [if_neg e1]
  by_cases e2 : j = 2
  · rw [if_pos e2, e2]; exact hs.2.1
  rw [if_neg e2]
  by_cases e3 : j = 3
  · rw [if_pos e3, e3]; exact hs.2.2.1
  rw [if_neg e3]
  by_cases e4 : j < 16
  · rw [if_pos e4]
    obtain ⟨k, hk⟩ : ∃ k, j = 4 + 2 * k ∨ j = 5 + 2 * k := ⟨(j - 4) / 2, by omega⟩
    rcases hk with hk | hk
    · rw [if_pos (by omega)]
      have q := (hs.2.2.2 k (by omega)).1
      rw [show a + 1 + 3 + 2 * k = a + j by omega] at q
      exact q
    · rw [if_neg (by omega), zRS0_ne (by omega)]
      have q := (hs.2.2.2 k (by omega)).2
      rw [show a + 1 + 3 + 2 * k + 1 = a + j by omega] at q
      exact q
  rw [if_neg e4]
  by_cases e16 : j = 16
  · rw [if_pos e16, e16]; exact h16
  rw [if_neg e16]
  by_cases e17 : j = 17
  · rw [if_pos e17, e17]; exact h17
  rw [if_neg e17]
  by_cases e18 : j = 18
  · rw [if_pos e18, e18]; exact h18
  rw [if_neg e18]
  by_cases e19 : j = 19
  · rw [if_pos e19, e19]; exact h19
  rw [if_neg e19]
  by_cases e20 : j = 20
  · rw [if_pos e20, e20]; exact h20
  rw [if_neg e20]
  by_cases e26 : j < 27
  · rw [if_pos e26]
    by_cases eo : j % 2 = 1
    · rw [if_pos eo]
      rcases (show j = 21 ∨ j = 23 ∨ j = 25 by omega) with q | q | q
      · rw [q]; exact h21.1
      · rw [q]; exact h23.1
      · rw [q]; exact h25.1
    · rw [if_neg eo, zRS0_ne (by omega)]
      rcases (show j = 22 ∨ j = 24 ∨ j = 26 by omega) with q | q | q
      · rw [q]; exact h21.2
      · rw [q]; exact h23.2
      · rw [q]; exact h25.2
  rw [if_neg e26]
  obtain ⟨k, hk⟩ : ∃ k, j = 27 + 4 * k ∨ j = 28 + 4 * k ∨ j = 29 + 4 * k ∨ j = 30 + 4 * k := ⟨(j - 27) / 4, by omega⟩
  have q := hp k (by omega)
  rcases hk with hk | hk | hk | hk
  · rw [if_pos (by omega), show a + j = a + 27 + 4 * k by omega]; exact q.1.1
  · rw [if_neg (by omega), if_pos (by omega), zRS0_ne (by omega), show a + j = a + 27 + 4 * k + 1 by omega]; exact q.1.2
  · rw [if_pos (by omega), show a + j = a + 29 + 4 * k by omega]; exact q.2.1
  · rw [if_neg (by omega), if_neg (by omega), zRS0_ne (by omega), show a + j = a + 29 + 4 * k + 1 by omega]; exact q.2.2
/-- a CurveMeets as it is made -/
theorem zCP0 {cI cP cS cZ cM : ClassId} {g : Nat → va_E} {o : Nat} (h : zCM0 cI cP cS cZ cM g o) : zCP cI cP cS cZ cM o zM0 g := by
  obtain ⟨h0, h1, h2, h3, h4, h5, h6, h7, h8, h9, h10, h11, h12⟩ := h
  refine ⟨h0, ⟨0, 0, 7, fun _ => zone 0, zone 0, ⟨h1.1, h1.2.1, h1.2.2.1, h1.2.2.2, zz0c (by decide)⟩, fun _ => zz0c (by decide)⟩, zrdr0 h2, h3, h4, h5, ⟨h6.1, h6.2.1.1, h6.2.1.2, h6.2.2⟩, ⟨h7.1, h7.2.1.1, h7.2.1.2, h7.2.2⟩, ⟨zone 0, zone 0, zone 0, h8.1, h8.2.1.1, h8.2.1.2, h8.2.2.1.1, h8.2.2.1.2, h8.2.2.2.1.1, h8.2.2.2.1.2, h8.2.2.2.2⟩, ⟨o + 623 + 3, o + 623 + 4, zone 0, zone 0, ⟨h9.1, h9.2.1, h9.2.2.1, h9.2.2.2.1, h9.2.2.2.2, Or.inl ⟨rfl, rfl⟩⟩, zz0c (by decide), zz0c (by decide)⟩, ⟨o + 628 + 4, 7, 24, 0, 0, 0, 0, zone 0, zone 0, zone 0, ⟨h10.1, h10.2.1, h10.2.2.1, h10.2.2.2.1⟩, fun k => by rw [zz0k]; omega⟩, ?_, h12⟩
  obtain ⟨⟨m0, m1, m2, m3, m4, m5, m6⟩, m7, m8, m9, m10, m11⟩ := h11
  exact ⟨zone 0, 0, 0, 1, 0, 0, 1, fun _ => zone 0, fun _ => zone 0, fun _ => zone 0, m0, m1, m2, m3, m4, m5, m6, m7, m8, m9, fun k hk => (m10 k hk).1, fun k hk => (m10 k hk).2, m11⟩
theorem zCI0 : zCI zM0 := by
  have z0 : ∀ k : Nat, ¬ (k : Int) < 0 := fun k => by omega
  refine ⟨(show (2 : Int) ≤ 7 ∧ (7 : Int) ≤ 31 by omega), (show (0 : Int) ≤ 0 ∧ (0 : Int) ≤ 6 by omega), fun k hk => absurd hk (z0 k), ⟨Int.le_refl _, (show (0 : Int) ≤ 1000 by decide), fun k => ?_⟩, ⟨fun k => ?_, fun k => ?_, fun k => ?_⟩, (show (0 : Int) ≤ 0 ∧ (0 : Int) ≤ 20 by omega), (show (0 : Int) ≤ 0 ∧ (0 : Int) < 20 by omega), ⟨(show (2 : Int) ≤ 7 ∧ (7 : Int) ≤ 31 by omega), zz0c (show (0 : Int) < 7 by decide), zz0c (by decide)⟩, zz0c (by decide), zz0c (by decide), (show (0 : Int) ≤ 0 ∧ (0 : Int) ≤ 2049 by omega), zz0c (by decide), fun i hi => ⟨(show (2 : Int) ≤ 7 ∧ (7 : Int) ≤ 31 by omega), (show (0 : Int) ≤ 0 ∧ (0 : Int) ≤ 6 by omega), fun k hk => absurd hk (z0 k)⟩⟩
  · show 0 ≤ zone 0 k ∧ zone 0 k ≤ 255
    rw [zz0k]; omega
  · show 0 ≤ zone 0 k ∧ zone 0 k ≤ 1
    rw [zz0k]; omega
  · show 0 ≤ zone 0 k ∧ zone 0 k ≤ 1000
    rw [zz0k]; omega
  · show 0 ≤ zone 0 k ∧ zone 0 k ≤ 31
    rw [zz0k]; omega
/-- the model at the start -/
def zS0 : zS2 := fun k => if k = 0 then (fun i => if i = 4 then -1 else if i = 9 then -1 else if i = 10 then 7 else 0) else zone 0
theorem zS0_ne {k : Nat} (h : k ≠ 0) : zS0 k = zone 0 := if_neg h
theorem zbk_0k {i : Nat} : zbk i 0 := by
  unfold zbk
  split
  · omega
  · split <;> omega
theorem zmI0 : mI zS0 := by
  intro k i
  by_cases e : k = 0
  · subst e
    show zbs i (if i = 4 then -1 else if i = 9 then -1 else if i = 10 then 7 else 0)
    unfold zbs
    by_cases h : i < 36
    · rcases (show i = 0 ∨ i = 1 ∨ i = 2 ∨ i = 3 ∨ i = 4 ∨ i = 5 ∨ i = 6 ∨ i = 7 ∨ i = 8 ∨ i = 9 ∨ i = 10 ∨ i = 11 ∨ i = 12 ∨ i = 13 ∨ i = 14 ∨ i = 15 ∨ i = 16 ∨ i = 17 ∨ i = 18 ∨ i = 19 ∨ i = 20 ∨ i = 21 ∨ i = 22 ∨ i = 23 ∨ i = 24 ∨ i = 25 ∨ i = 26 ∨ i = 27 ∨ i = 28 ∨ i = 29 ∨ i = 30 ∨ i = 31 ∨ i = 32 ∨ i = 33 ∨ i = 34 ∨ i = 35 by omega) with rfl | rfl | rfl | rfl | rfl | rfl | rfl | rfl | rfl | rfl | rfl | rfl | rfl | rfl | rfl | rfl | rfl | rfl | rfl | rfl | rfl | rfl | rfl | rfl | rfl | rfl | rfl | rfl | rfl | rfl | rfl | rfl | rfl | rfl | rfl | rfl <;> decide
    · repeat rw [if_neg (by omega)]
      trivial
  · rw [zS0_ne e, zz0k]
    unfold zbx
    rw [if_neg e]
    by_cases e1 : k = 1
    · rw [if_pos e1]
      omega
    rw [if_neg e1]
    by_cases e2 : k = 2
    · rw [if_pos e2]
      trivial
    rw [if_neg e2]
    by_cases e3 : k = 3
    · rw [if_pos e3]
      omega
    rw [if_neg e3]
    by_cases e4 : k = 4
    · rw [if_pos e4]
      omega
    rw [if_neg e4]
    by_cases e5 : k = 5
    · rw [if_pos e5]
      omega
    rw [if_neg e5]
    by_cases e6 : k = 6
    · rw [if_pos e6]
      trivial
    rw [if_neg e6]
    by_cases e7 : k = 7
    · rw [if_pos e7]
      omega
    rw [if_neg e7]
    by_cases e8 : k = 8
    · rw [if_pos e8]
      omega
    rw [if_neg e8]
    by_cases e9 : k = 9
    · rw [if_pos e9]
      omega
    rw [if_neg e9]
    by_cases e10 : k = 10
    · rw [if_pos e10]
      omega
    rw [if_neg e10]
    by_cases e11 : k = 11
    · rw [if_pos e11]
      omega
    rw [if_neg e11]
    by_cases e12 : k = 12
    · rw [if_pos e12]
      omega
    rw [if_neg e12]
    by_cases e13 : k = 13
    · rw [if_pos e13]
      omega
    rw [if_neg e13]
    by_cases e14 : k = 14
    · rw [if_pos e14]
      omega
    rw [if_neg e14]
    by_cases e15 : k = 15
    · rw [if_pos e15]
      omega
    rw [if_neg e15]
    by_cases e16 : k = 16
    · rw [if_pos e16]
      omega
    rw [if_neg e16]
    by_cases e17 : k = 17
    · rw [if_pos e17]
      omega
    rw [if_neg e17]
    by_cases e18 : k = 18
    · rw [if_pos e18]
      trivial
    rw [if_neg e18]
    by_cases e19 : k = 19
    · rw [if_pos e19]
      omega
    rw [if_neg e19]
    by_cases e20 : k = 20
    · rw [if_pos e20]
      exact zbk_0k
    rw [if_neg e20]
    trivial
end ZCz
