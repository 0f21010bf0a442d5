section ZHj
theorem zm_askedT {M : zCt} {S : zS2} (hB : zBs M S) {a b pt : Int} : zm_isAsked S a b pt = bI (((0 ≤ a ∧ a < M.1 0 4) ∧ (0 ≤ b ∧ b < M.1 0 4)) ∧ zpt pt (M.1 0 3)) := by
  unfold zm_isAsked
  rw [zm_areC, hB.2.1, zB_isPoint hB.1]
  by_cases h : (0 ≤ a ∧ a < M.1 0 4) ∧ (0 ≤ b ∧ b < M.1 0 4)
  · rw [bI_t h, zlet_v, if_neg (by decide)]
    by_cases q : zpt pt (M.1 0 3)
    · rw [bI_t q, zlet_v, if_neg (by decide), bI_t ⟨h, q⟩]
    · rw [bI_f q, zlet_v, if_pos rfl, bI_f (fun z => q z.2)]
  · rw [bI_f h, zlet_v, if_pos rfl, bI_f (fun z => h z.1)]
theorem zw_common24 {M : zCt} {d e : Nat → Int} {p : Int} : (zw_common M d e p).1 24 = zcmP d e p := by
  unfold zw_common
  dsimp only
  rw [zset_self]
/-- times, both -/
theorem zB_times {i : Int} {M : zCt} {S : zS2} (hR : zBm i M S) (hC : zCI M) (a b pt : Int) : (zc_times M a b pt = (-1, M) ∧ zm_isAsked S a b pt = 0) ∨ (zm_isAsked S a b pt = 1 ∧ ∃ t N' U', zc_times M a b pt = (t, N') ∧ zm_timesAt S a b pt = (t, U') ∧ zVE N' M ∧ zFm S U' ∧ (t = -2 ∨ 0 ≤ t ∧ (∀ k : Nat, k < 4 → N'.1 25 k = U' 18 k) ∧ N'.1 0 15 = U' 0 33 ∧ (∀ k : Nat, (k : Int) < N'.1 0 15 → N'.1 26 k = U' 19 k) ∧ 1 ≤ N'.1 0 15 ∧ N'.1 0 15 ≤ 2048)) := by
  have hB := hR.1.2.2.1
  have cn := hC.cn
  rw [zm_askedT hB]
  by_cases h : (0 ≤ a ∧ a < M.1 0 4) ∧ (0 ≤ b ∧ b < M.1 0 4)
  · by_cases q : zpt pt (M.1 0 3)
    · obtain ⟨t, N', U', c1, c2, c3, c4, c5, c6⟩ := zB_timesAt hB hR.2 hC h.1 h.2 q (N := zw_common M (M.2.1 a.toNat) (M.2.1 b.toNat) (M.1 0 3)) zv_common zw_common24 zFm.rf
      refine Or.inr ⟨bI_t ⟨h, q⟩, t, N', U', ?_, c2, c3, c5, c6⟩
      unfold zc_times
      rw [if_pos (show 0 ≤ a ∧ a < M.1 0 4 ∧ a < 6 by omega), if_pos (show 0 ≤ b ∧ b < M.1 0 4 ∧ b < 6 by omega), bI_t q]
      simp only [zlet_v]
      rw [if_neg (by decide), c1]
    · refine Or.inl ⟨?_, bI_f (fun z => q z.2)⟩
      unfold zc_times
      rw [if_pos (show 0 ≤ a ∧ a < M.1 0 4 ∧ a < 6 by omega), if_pos (show 0 ≤ b ∧ b < M.1 0 4 ∧ b < 6 by omega), bI_f q, zlet_v, if_pos rfl]
  · refine Or.inl ⟨?_, bI_f (fun z => h z.1)⟩
    unfold zc_times
    by_cases q : 0 ≤ a ∧ a < M.1 0 4
    · rw [if_pos (show 0 ≤ a ∧ a < M.1 0 4 ∧ a < 6 by omega), if_neg (fun z => h ⟨q, by omega⟩)]
    · rw [if_neg (show ¬ (0 ≤ a ∧ a < M.1 0 4 ∧ a < 6) by omega)]
      split <;> rfl
theorem zfact_19 (L : Nat) : zlK_19 zBm L := by
  intro i M S a1 a2 a3 _ _ hR hC hI _ _ _
  unfold zm_times
  rcases zB_times hR hC a1 a2 a3 with ⟨e1, e2⟩ | ⟨e2, t, N', U', c1, c2, c3, c4, c5⟩
  · rw [e1, e2, zlet_v, if_pos rfl]
    exact ⟨rfl, zBm_q hR hC zVE.rf zFm.rf⟩
  · rw [c1, e2, zlet_v, if_neg (by decide), c2]
    exact ⟨rfl, zBm_q hR hC c3 c4⟩
theorem zfact_20 (L : Nat) : zlK_20 zBm L := by
  intro i M S a1 a2 a3 a4 _ _ hR hC hI _ _ _ _
  unfold zm_rules zc_rules
  rw [zB_isIn]
  have no : ∀ R : Int × zS2, R = (-1, S) → ((-1, M) : Int × zCt).1 = R.1 ∧ zBm (i + 8) ((-1, M) : Int × zCt).2 R.2 := fun R e => by
    rw [e]
    exact ⟨rfl, zBm_q hR hC zVE.rf zFm.rf⟩
  by_cases k : 0 ≤ a4 ∧ a4 ≤ 3
  · rw [if_neg (show ¬ a4 < 0 by omega), if_pos (show a4 < 4 by omega), if_pos k]
    rcases zB_times hR hC a1 a2 a3 with ⟨e1, e2⟩ | ⟨e2, t, N', U', c1, c2, c3, c4, c5⟩
    · rw [e1, e2]
      simp only [zlet_v]
      rw [if_pos trivial]
      exact no _ rfl
    · rw [c1, e2]
      simp only [zlet_v]
      rw [if_neg (show ¬ (1 : Int) = 0 by decide), if_neg (show ¬ (1 : Int) = 0 by decide), c2]
      dsimp only
      rcases c5 with c5 | ⟨c5, c6, _⟩
      · rw [if_neg (by omega), if_pos c5]
        exact ⟨rfl, zBm_q hR hC c3 c4⟩
      · rw [if_pos c5, if_neg (by omega)]
        exact ⟨c6 _ (by omega), zBm_q hR hC c3 c4⟩
  · rw [if_neg k]
    have em : (zlet (zm_isAsked S a1 a2 a3) fun z4 => if z4 = 0 then ((-1 : Int), S) else zlet (0 : Int) fun z14 => if z14 = 0 then (-1, S) else zlet (zm_timesAt S a1 a2 a3) (fun q26 => (fun (z26 : Int) (S26 : zS2) => (if z26 = -2 then (-1, S26) else (S26 18 a4.toNat, S26))) q26.1 q26.2)) = (-1, S) := by
      simp only [zlet_v]
      split
      · rfl
      · rfl
    by_cases q : a4 < 0
    · rw [if_pos q]
      exact no _ em
    · rw [if_neg q, if_neg (by omega)]
      exact no _ em
theorem zfact_21 (L : Nat) : zlK_21 zBm L := by
  intro i M S a1 a2 a3 a4 _ _ hR hC hI _ _ _ _
  unfold zm_rule zc_rule
  rcases zB_times hR hC a1 a2 a3 with ⟨e1, e2⟩ | ⟨e2, t, N', U', c1, c2, c3, c4, c5⟩
  · rw [e1, e2]
    simp only [zlet_v]
    rw [if_neg (by decide), if_pos trivial]
    exact ⟨rfl, zBm_q hR hC zVE.rf zFm.rf⟩
  · rw [c1, e2]
    simp only [zlet_v]
    rw [if_neg (show ¬ (1 : Int) = 0 by decide), c2]
    dsimp only
    rcases c5 with c5 | ⟨c5, _, c7, c8, c9, c10⟩
    · rw [if_neg (by omega), if_pos c5]
      exact ⟨rfl, zBm_q hR hC c3 c4⟩
    · rw [if_pos c5, if_neg (show ¬ t = -2 by omega), zB_isIn, ← c7]
      by_cases q : 0 ≤ a4 ∧ a4 ≤ N'.1 0 15 - 1
      · rw [if_pos (show 0 ≤ a4 ∧ a4 < N'.1 0 15 ∧ a4 < 2048 by omega), if_pos q, if_neg (show ¬ (1 : Int) = 0 by decide), if_neg (show ¬ 4000 ≤ a4 by omega)]
        exact ⟨c8 _ (by omega), zBm_q hR hC c3 c4⟩
      · rw [if_neg (show ¬ (0 ≤ a4 ∧ a4 < N'.1 0 15 ∧ a4 < 2048) by omega), if_neg q, if_pos rfl]
        exact ⟨rfl, zBm_q hR hC c3 c4⟩
end ZHj
