section ZMc
theorem zprm_4 {p : Int} (h : p = 2 ∨ p = 3 ∨ p = 5 ∨ p = 7) : zprm p = 1 := by
  rcases h with e | e | e | e <;> subst e <;> decide
set_option maxHeartbeats 8000000 in
/-- FIELD -/
theorem zrfd_q {p : Int} (hp4 : p = 2 ∨ p = 3 ∨ p = 5 ∨ p = 7) {n : Int} {T : Nat → Int} {X : List Int} {S : Nat → Nat → Int} (h4 : S 0 4 = 0) (ht : zSd n T (S 0 0) (102 :: 105 :: 101 :: 108 :: 100 :: 32 :: (48 + p) :: 59 :: X)) : zwd n T 0 (S 0 0) = 1 ∧ ∃ R, zrfd n T S = (1, R) ∧ R 0 0 = S 0 0 + 8 ∧ R 0 3 = p ∧ R 0 4 = 0 := by
  obtain ⟨t0, ht⟩ := zSd.c ht
  obtain ⟨t1, ht⟩ := zSd.c ht
  obtain ⟨t2, ht⟩ := zSd.c ht
  obtain ⟨t3, ht⟩ := zSd.c ht
  obtain ⟨t4, ht⟩ := zSd.c ht
  obtain ⟨t5, ht⟩ := zSd.c ht
  obtain ⟨t6, ht⟩ := zSd.c ht
  obtain ⟨t7, ht⟩ := zSd.c ht
  clear ht
  obtain ⟨k, ek⟩ : ∃ k, k = S 0 0 := ⟨_, rfl⟩
  rw [← ek] at t0 t1 t2 t3 t4 t5 t6 t7 ⊢
  rw [show k + 1 + 1 = k + 2 by omega] at t2 t3 t4 t5 t6 t7
  rw [show k + 2 + 1 = k + 3 by omega] at t3 t4 t5 t6 t7
  rw [show k + 3 + 1 = k + 4 by omega] at t4 t5 t6 t7
  rw [show k + 4 + 1 = k + 5 by omega] at t5 t6 t7
  rw [show k + 5 + 1 = k + 6 by omega] at t6 t7
  rw [show k + 6 + 1 = k + 7 by omega] at t7
  refine ⟨zwd_w5 0 (by decide) (fun j hj => by
    rcases (show j = 0 ∨ j = 1 ∨ j = 2 ∨ j = 3 ∨ j = 4 by omega) with e | e | e | e | e <;> subst e
    · rw [show k + ((0 : Nat) : Int) = k by omega, t0]; decide
    · exact t1.trans (by decide)
    · exact t2.trans (by decide)
    · exact t3.trans (by decide)
    · exact t4.trans (by decide)) (fun j hj => by
    rcases (show j = 0 ∨ j = 1 ∨ j = 2 ∨ j = 3 ∨ j = 4 by omega) with e | e | e | e | e <;> subst e <;> decide) t5, ?_⟩
  obtain ⟨A, eA⟩ : ∃ A, A = zsr S (S 0 0 + 5) (S 0 1) (S 0 2) := ⟨_, rfl⟩
  have A0 : A 0 0 = k + 5 := by rw [eA, ek]; rfl
  have A4 : A 0 4 = 0 := by rw [eA]; exact h4
  obtain ⟨C, eC⟩ : ∃ C, C = zskS n T A := ⟨_, rfl⟩
  have C0 : C 0 0 = k + 6 := by
    rw [eC]
    show zsk n T (A 0 0) = _
    rw [A0, zsk_1 t5 (by rw [show k + 5 + 1 = k + 6 by omega]; omega)]
    omega
  have C4 : C 0 4 = 0 := by rw [eC]; exact A4
  have q := zrn_1 (n := n) (T := T) (S := C) (c := p) (by omega) (by rw [C0]; exact t6) (by rw [C0, show k + 6 + 1 = k + 7 by omega]; omega)
  obtain ⟨E, eE⟩ : ∃ E, E = zsr C (C 0 0 + 1) (C 0 1) (C 0 2) := ⟨_, rfl⟩
  rw [← eE] at q
  have E0 : E 0 0 = k + 7 := by
    rw [eE]
    show C 0 0 + 1 = _
    omega
  have E4 : E 0 4 = 0 := by rw [eE]; exact C4
  obtain ⟨G, eG⟩ : ∃ G, G = zsd E p (E 0 4) := ⟨_, rfl⟩
  have G0 : G 0 0 = k + 7 := by rw [eG]; exact E0
  have x := zxp_yk (n := n) (T := T) (S := G) (sg := 59) (k := k + 7) (by rw [G0]; exact zsk_at (by rw [t7]; decide)) t7
  refine ⟨zsr G (k + 7 + 1) (G 0 1) (G 0 2), ?_, ?_, ?_, ?_⟩
  · unfold zrfd
    rw [← eA]
    unfold zrfd0
    rw [A0, t5, zdgt_0 (by omega), if_pos rfl, ← eC]
    unfold zrfd1
    rw [C0, t6, zdgt_1 (by omega), if_neg (by decide), q]
    unfold zrfd2
    dsimp only
    rw [zprm_4 hp4, if_neg (by decide), ← eG, x]
  · show k + 7 + 1 = _
    omega
  · show G 0 3 = p
    rw [eG]
    rfl
  · show G 0 4 = 0
    rw [eG]
    exact E4
theorem zrtF_st {n : Int} {T : Nat → Int} {m : Nat} {S R : Nat → Nat → Int} (hb : ¬ (zby n T (S 0 0) = 10 ∨ zby n T (S 0 0) = 32)) (hk : S 0 0 < n) (h : zrc n T S = (1, R)) : zrtF n T (m + 1) S = zrtF n T m R := by
  show (if n ≤ zskS n T S 0 0 then (1, zskS n T S) else if (zrc n T (zskS n T S)).1 = 0 then (0, (zrc n T (zskS n T S)).2) else zrtF n T m (zrc n T (zskS n T S)).2) = _
  rw [zskS_at hb, if_neg (by omega), h]
  exact if_neg (show ¬ (1 : Int) = 0 by decide)
theorem zrtF_en {n : Int} {T : Nat → Int} {m : Nat} {S : Nat → Nat → Int} (hk : n ≤ S 0 0) : zrtF n T m S = (1, S) := by
  have e : zskS n T S = S := zskS_at (by rw [zby_n hk]; decide)
  cases m with
  | zero => rfl
  | succ m =>
    show (if n ≤ zskS n T S 0 0 then (1, zskS n T S) else _) = _
    rw [e, if_pos hk]
set_option maxHeartbeats 8000000 in
/-- the whole text -/
theorem zrt_q {p : Int} (hp4 : p = 2 ∨ p = 3 ∨ p = 5 ∨ p = 7) {d e : Nat → Nat → Int} {dg de : Int} (hg : 1 ≤ dg ∧ dg ≤ 4) (he : 1 ≤ de ∧ de ≤ 4) (hd : ∀ a b : Nat, 0 ≤ d a b ∧ d a b < p) (hz : ∀ a b : Nat, dg < (a : Int) + b → d a b = 0) (hh : zHas d dg) (hd2 : ∀ a b : Nat, 0 ≤ e a b ∧ e a b < p) (hz2 : ∀ a b : Nat, de < (a : Int) + b → e a b = 0) (hh2 : zHas e de) {n : Int} {T : Nat → Int} {S : Nat → Nat → Int} (hn : n = 19 + (zts d 25).length + 11 + (zts e 25).length + 1 - 1)
    (ht : zSd n T 0 (102 :: 105 :: 101 :: 108 :: 100 :: 32 :: (48 + p) :: 59 :: 99 :: 117 :: 114 :: 118 :: 101 :: 32 :: 97 :: 32 :: 61 :: 32 :: (zts d 25 ++ 59 :: 99 :: 117 :: 114 :: 118 :: 101 :: 32 :: 98 :: 32 :: 61 :: 32 :: (zts e 25 ++ 59 :: [])))) :
    ∃ R, zrt n T S = (1, R) ∧ R 0 3 = p ∧ R 0 4 = 2 ∧ (zcan p (R 7) ∧ zflt (R 7) ∧ ztop (R 7) = dg) ∧ zcan p (R 8) ∧ zflt (R 8) ∧ ztop (R 8) = de := by
  have hpr := zPr_4 hp4
  obtain ⟨Z, eZ⟩ : ∃ Z, Z = zts d 25 := ⟨_, rfl⟩
  obtain ⟨Y, eY⟩ : ∃ Y, Y = zts e 25 := ⟨_, rfl⟩
  rw [← eZ, ← eY] at ht hn
  have t0 := (zSd.c ht).1
  obtain ⟨S1, eS1⟩ : ∃ S1, S1 = zsd (zsr S 0 0 (-1)) 7 0 := ⟨_, rfl⟩
  have S10 : S1 0 0 = 0 := by rw [eS1]; rfl
  have S14 : S1 0 4 = 0 := by rw [eS1]; rfl
  have ht0 := ht
  rw [← S10] at ht0
  obtain ⟨w, F, f1, f2, f3, f4⟩ := zrfd_q hp4 S14 ht0
  have F0 : F 0 0 = 8 := by rw [f2, S10]; rfl
  have hta : zSd n T 8 (99 :: 117 :: 114 :: 118 :: 101 :: 32 :: 97 :: 32 :: 61 :: 32 :: (Z ++ 59 :: 99 :: 117 :: 114 :: 118 :: 101 :: 32 :: 98 :: 32 :: 61 :: 32 :: (Y ++ 59 :: []))) := (zSd.c (zSd.c (zSd.c (zSd.c (zSd.c (zSd.c (zSd.c (zSd.c ht).2).2).2).2).2).2).2).2
  have ta0 := (zSd.c hta).1
  have htb : zSd n T (8 + 10 + Z.length + 1) (99 :: 117 :: 114 :: 118 :: 101 :: 32 :: 98 :: 32 :: 61 :: 32 :: (Y ++ 59 :: [])) := by
    have z := (zSd.c (zSd.app (zSd.c (zSd.c (zSd.c (zSd.c (zSd.c (zSd.c (zSd.c (zSd.c (zSd.c (zSd.c hta).2).2).2).2).2).2).2).2).2).2).2).2
    rw [show (8 : Int) + 1 + 1 + 1 + 1 + 1 + 1 + 1 + 1 + 1 + 1 = 8 + 10 by omega] at z
    exact z
  have tb0 := (zSd.c htb).1
  obtain ⟨G, g1, g2, g3, g4, g5, g6, g7⟩ := zrc_q hpr (by omega) hg hd hz hh (cn := 0) (S := F) (nm := 97) (by omega) f3 f4 (Or.inl rfl) (fun j hj => absurd hj (Nat.not_lt_zero _)) (by rw [F0, ← eZ]; exact hta)
  have G0 : G 0 0 = 8 + 10 + Z.length + 1 := by rw [g2, F0, eZ]
  obtain ⟨H, h1, h2, h3, h4, h5, h6, h7⟩ := zrc_q hpr (by omega) he hd2 hz2 hh2 (cn := 1) (S := G) (nm := 98) (X := []) (by omega) g3 (by rw [g4]; rfl) (Or.inr rfl) (fun j hj => by
    rw [show j = 0 by omega, g5.1]
    decide) (by rw [G0, ← eY]; exact htb)
  have H0 : H 0 0 = n := by
    rw [h2, G0, ← eY, hn]
    omega
  refine ⟨H, ?_, h3, by rw [h4]; rfl, ?_, h6⟩
  · unfold zrt
    rw [← eS1, zskS_at (by rw [S10, t0]; decide)]
    unfold zrt1
    rw [w, if_neg (by decide), f1]
    dsimp only
    rw [if_neg (by decide), show (n + 1 - 0).toNat = (n - 1).toNat + 2 by omega, zrtF_st (m := (n - 1).toNat + 1) (by rw [F0, ta0]; decide) (by omega) g1, zrtF_st (m := (n - 1).toNat) (by rw [G0, tb0]; decide) (by omega) h1, zrtF_en (by omega)]
  · rw [show H 7 = G 7 from h7 7 (by omega) (by omega) (by omega)]
    exact g6
theorem zPar_ok : zParse := by
  intro p dg de d e N hp4 hg he hd hz hh hd2 hz2 hh2 hC hV hn hT
  have hpr := zPr_4 hp4
  have el : zlw p d e = 102 :: 105 :: 101 :: 108 :: 100 :: 32 :: (48 + p) :: 59 :: 99 :: 117 :: 114 :: 118 :: 101 :: 32 :: 97 :: 32 :: 61 :: 32 :: (zts d 25 ++ 59 :: 99 :: 117 :: 114 :: 118 :: 101 :: 32 :: 98 :: 32 :: 61 :: 32 :: (zts e 25 ++ 59 :: [])) := by
    unfold zlw
    generalize zts d 25 = Z
    generalize zts e 25 = Y
    simp only [List.append_assoc, List.cons_append, List.nil_append]
  have hla : (zts d 25).length ≤ 151 := zts_len4 (fun a b h => hz a b (by omega)) (Nat.le_refl _)
  have hlb : (zts e 25).length ≤ 151 := zts_len4 (fun a b h => hz2 a b (by omega)) (Nat.le_refl _)
  have ln : (zlw p d e).length = 18 + (zts d 25).length + 11 + (zts e 25).length + 1 := by
    rw [el]
    simp only [List.length_append, List.length_cons, List.length_nil]
    omega
  obtain ⟨R, r1, r3, r4, r7, r8⟩ := zrt_q hp4 hg (by omega) hd hz hh hd2 hz2 hh2 (n := N.1 0 2) (T := N.1 2) (S := N.2.2.2.2) (by rw [hn, ln]; omega) (by
    rw [← el]
    intro i hi
    unfold zby
    rw [if_pos (by omega), show ((0 : Int) + (i : Int)).toNat = i by omega]
    exact hT i hi)
  have key : (zc_curves N).1 = 2 ∧ (zc_curves N).2.1 0 3 = p ∧ (zc_curves N).2.1 0 4 = 2 ∧ (zc_curves N).2.2.1 0 = R 7 ∧ (zc_curves N).2.2.1 1 = R 8 := by
    unfold zc_curves zw_read
    rw [r1]
    simp only [zlet_v]
    rw [if_neg (by decide)]
    refine ⟨r4, r3, r4, rfl, rfl⟩
  exact ⟨key.1, R 7, R 8, ⟨⟨key.2.1, key.2.2.1⟩, key.2.2.2.1, key.2.2.2.2⟩, r7.1, r8.1, r7.2.1, r8.2.1, by omega, by omega⟩
end ZMc
