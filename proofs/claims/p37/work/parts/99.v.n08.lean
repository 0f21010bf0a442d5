section ZLw
theorem zsk_at {n : Int} {T : Nat → Int} {a : Int} (h : ¬ (zby n T a = 10 ∨ zby n T a = 32)) : zsk n T a = a := by
  unfold zsk
  cases (n - a).toNat with
  | zero => rfl
  | succ k => exact if_neg h
theorem zskS_at {n : Int} {T : Nat → Int} {S : Nat → Nat → Int} (h : ¬ (zby n T (S 0 0) = 10 ∨ zby n T (S 0 0) = 32)) : zskS n T S = S := by
  unfold zskS
  rw [zsk_at h, zsr_id]
theorem ztk_y {n : Int} {T : Nat → Int} {S : Nat → Nat → Int} {sg : Int} (h : zby n T (S 0 0) = sg) (hs : ¬ (sg = 10 ∨ sg = 32)) : ztk n T sg S = (1, zsr S (S 0 0 + 1) (S 0 1) (S 0 2)) := by
  unfold ztk
  rw [zsk_at (by rw [h]; exact hs), if_pos h]
theorem ztk_n {n : Int} {T : Nat → Int} {S : Nat → Nat → Int} {sg : Int} (h : zby n T (S 0 0) ≠ sg) (hs : ¬ (zby n T (S 0 0) = 10 ∨ zby n T (S 0 0) = 32)) : ztk n T sg S = (0, S) := by
  unfold ztk
  rw [zsk_at hs, if_neg h, zskS_at hs]
theorem zdgt_1 {c : Int} (h : 48 ≤ c ∧ c ≤ 57) : zdig c = 1 := if_pos h
theorem zdgt_0 {c : Int} (h : ¬ (48 ≤ c ∧ c ≤ 57)) : zdig c = 0 := if_neg h
theorem zrnA_1 {n : Int} {T : Nat → Int} {a c : Int} (hc : 0 ≤ c ∧ c ≤ 9) (h : zby n T a = 48 + c) (h1 : ¬ (48 ≤ zby n T (a + 1) ∧ zby n T (a + 1) ≤ 57)) : zrnA n T a = (a + 1, c) := by
  have ha := zby_in (n := n) (T := T) (a := a) (by omega)
  unfold zrnA
  rw [zrnF_s T 0 ha.2, h, zdgt_1 (by omega), if_neg (by decide), show min (0 * 10 + (48 + c) - 48) 2147483648 = c by omega]
  by_cases e : a + 1 < n
  · rw [zrnF_s T c e, zdgt_0 h1, if_pos rfl]
  · rw [show (n - (a + 1)).toNat = 0 by omega]
    rfl
theorem zrn_1 {n : Int} {T : Nat → Int} {S : Nat → Nat → Int} {c : Int} (hc : 0 ≤ c ∧ c ≤ 9) (h : zby n T (S 0 0) = 48 + c) (h1 : ¬ (48 ≤ zby n T (S 0 0 + 1) ∧ zby n T (S 0 0 + 1) ≤ 57)) : zrn n T S = (c, zsr S (S 0 0 + 1) (S 0 1) (S 0 2)) := by
  unfold zrn zrnV
  rw [zrnA_1 hc h h1]
  dsimp only
  rw [if_neg (by omega)]
theorem zwe_one {n : Int} {T : Nat → Int} {a : Int} (h : 97 ≤ zby n T a ∧ zby n T a ≤ 122) (h1 : ¬ (97 ≤ zby n T (a + 1) ∧ zby n T (a + 1) ≤ 122)) : zwe n T a = a + 1 := by
  have ha := zby_in (n := n) (T := T) (a := a) (by omega)
  unfold zwe
  rw [show (n - a).toNat = (n - (a + 1)).toNat + 1 by omega]
  show (if 97 ≤ zby n T a ∧ zby n T a ≤ 122 then zweF n T (n - (a + 1)).toNat (a + 1) else a) = a + 1
  rw [if_pos h]
  cases (n - (a + 1)).toNat with
  | zero => rfl
  | succ k => exact if_neg h1
theorem zwd_x {n : Int} {T : Nat → Int} {a : Int} (i : Nat) (hl : zlen i = 1) (h : 97 ≤ zby n T a ∧ zby n T a ≤ 122) (h1 : ¬ (97 ≤ zby n T (a + 1) ∧ zby n T (a + 1) ≤ 122)) : zwd n T i a = if zby n T a = zchr i 0 then 1 else 0 := by
  unfold zwd
  rw [zwe_one h h1, hl, if_pos (by omega)]
  show (if zby n T (a + 0) = zchr i (0 : Int).toNat then zwdF n T i a 0 (0 + 1) else 0) = _
  rw [Int.add_zero]
  rfl
/-- an ATOM: a digit -/
theorem zra_d {n : Int} {T : Nat → Int} {S : Nat → Nat → Int} {c : Int} (hc : 0 ≤ c ∧ c ≤ 9) (h : zby n T (S 0 0) = 48 + c) (h1 : ¬ (48 ≤ zby n T (S 0 0 + 1) ∧ zby n T (S 0 0 + 1) ≤ 57)) : zra n T S = (1, zset (zsr S (S 0 0 + 1) (S 0 1) (S 0 2)) 4 (zone (c % S 0 3))) := by
  unfold zra
  rw [h, zdgt_1 (by omega), if_neg (by decide), zrn_1 hc h h1]
  unfold zra1
  dsimp only
  rw [if_neg (by omega)]
  rfl
/-- an ATOM: a letter -/
theorem zra_x {n : Int} {T : Nat → Int} {S : Nat → Nat → Int} (h : zby n T (S 0 0) = 120) (h1 : zby n T (S 0 0 + 1) = 94) : zra n T S = (1, zsr (zset S 4 (zput (zone 0) 1 0 1)) (S 0 0 + 1) (S 0 1) (S 0 2)) := by
  have e2 : zwd n T 2 (S 0 0) = 1 := by
    rw [zwd_x 2 (by decide) (by omega) (by omega), h, if_pos (by decide)]
  unfold zra
  rw [h, zdgt_0 (by omega), if_pos rfl, e2, if_neg (by omega)]
  rfl
theorem zra_y {n : Int} {T : Nat → Int} {S : Nat → Nat → Int} (h : zby n T (S 0 0) = 121) (h1 : zby n T (S 0 0 + 1) = 94) : zra n T S = (1, zsr (zset S 4 (zput (zone 0) 0 1 1)) (S 0 0 + 1) (S 0 1) (S 0 2)) := by
  have e2 : zwd n T 2 (S 0 0) = 0 := by
    rw [zwd_x 2 (by decide) (by omega) (by omega), h, if_neg (by decide)]
  have e3 : zwd n T 3 (S 0 0) = 1 := by
    rw [zwd_x 3 (by decide) (by omega) (by omega), h, if_pos (by decide)]
  unfold zra
  rw [h, zdgt_0 (by omega), if_pos rfl, e2, e3, if_neg (by omega)]
  rfl
end ZLw
