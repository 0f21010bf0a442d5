section ZMb
/-- a NAME of one letter -/
theorem zrnm_q {n : Int} {T : Nat → Int} {S : Nat → Nat → Int} {nm : Int} {cn : Nat} (hcn : cn < 6) (h4 : S 0 4 = cn) (hnm : nm = 97 ∨ nm = 98) (t0 : zby n T (S 0 0) = nm) (t1 : zby n T (S 0 0 + 1) = 32) (hu : ∀ j : Nat, j < cn → S 1 (6 * j) ≠ nm - 96) : ∃ R, zrnm n T S = (1, R) ∧ R 0 0 = S 0 0 + 1 ∧ R 0 3 = S 0 3 ∧ R 0 4 = S 0 4 ∧ (R 1 (6 * cn) = nm - 96 ∧ ∀ q, q < 6 * cn → R 1 q = S 1 q) ∧ ∀ j, j ≠ 0 → j ≠ 1 → R j = S j := by
  have ew : zwe n T (S 0 0) = S 0 0 + 1 := zwe_one (by omega) (by omega)
  have w0 : zwd n T 0 (S 0 0) = 0 := by
    unfold zwd
    rw [ew, if_neg (by rw [show zlen 0 = 5 from rfl]; omega)]
  have w1 : zwd n T 1 (S 0 0) = 0 := by
    unfold zwd
    rw [ew, if_neg (by rw [show zlen 1 = 5 from rfl]; omega)]
  have w2 : zwd n T 2 (S 0 0) = 0 := by
    rw [zwd_x 2 (by decide) (by omega) (by omega), if_neg (by rw [show zchr 2 0 = 120 from by decide]; omega)]
  have w3 : zwd n T 3 (S 0 0) = 0 := by
    rw [zwd_x 3 (by decide) (by omega) (by omega), if_neg (by rw [show zchr 3 0 = 121 from by decide]; omega)]
  have nb : ¬ zrnmB n T (S 0 0) 1 := fun z => by
    unfold zrnmB at z
    rcases z with z | z | z | z | z | z
    · omega
    · omega
    · exact z w0
    · exact z w1
    · exact z w2
    · exact z w3
  obtain ⟨lt, elt⟩ : ∃ lt, lt = zltr n T cn (S 0 0) 1 (S 1) := ⟨_, rfl⟩
  have l1 : lt (6 * cn) = nm - 96 := by
    rw [elt, zltr_e hcn, if_pos (by omega), Nat.sub_self]
    unfold zltv
    rw [if_pos (by omega), show S 0 0 + ((0 : Nat) : Int) = S 0 0 by omega, t0]
  have l2 : ∀ q, q < 6 * cn → lt q = S 1 q := fun q hq => by
    rw [elt, zltr_e hcn, if_neg (by omega)]
  have tk : znt lt cn = 0 := by
    unfold znt
    rw [show ((cn : Int) - 0).toNat = cn by omega]
    refine (zntF_e lt cn cn 0).2 (fun j hj z => ?_)
    have y := (zalk_6 lt cn (0 + j)).1 z 0 (by omega)
    rw [show ((cn : Int) * 6 + ((0 : Nat) : Int)).toNat = 6 * cn by omega, show ((0 + (j : Int)) * 6 + ((0 : Nat) : Int)).toNat = 6 * j by omega, l1, l2 _ (by omega)] at y
    exact hu j hj y.symm
  refine ⟨zsr (zset S 1 lt) (S 0 0 + 1) (S 0 1) (S 0 2), ?_, rfl, rfl, rfl, ⟨?_, fun q hq => ?_⟩, fun j j0 j1 => ?_⟩
  · unfold zrnm
    rw [ew, show S 0 0 + 1 - S 0 0 = 1 by omega]
    unfold zrnm0
    rw [if_neg nb]
    unfold zrnm1
    rw [h4, ← elt, tk, if_pos rfl]
  · rw [zsr_ne (by decide), zset_self]
    exact l1
  · rw [zsr_ne (by decide), zset_self]
    exact l2 q hq
  · rw [zsr_ne j0, zset_ne _ _ j1]
set_option maxHeartbeats 8000000 in
/-- a CURVE of the law's text -/
theorem zrc_q {p : Int} (hpr : zPr p) (hp : 1 < p ∧ p ≤ 7) {d : Nat → Nat → Int} {dg : Int} (hg : 1 ≤ dg ∧ dg ≤ 4) (hd : ∀ a b : Nat, 0 ≤ d a b ∧ d a b < p) (hz : ∀ a b : Nat, dg < (a : Int) + b → d a b = 0) (hh : zHas d dg) {n : Int} {T : Nat → Int} {X : List Int} {S : Nat → Nat → Int} {nm : Int} {cn : Nat} (hcn : cn < 2) (h3 : S 0 3 = p) (h4 : S 0 4 = cn) (hnm : nm = 97 ∨ nm = 98) (hu : ∀ j : Nat, j < cn → S 1 (6 * j) ≠ nm - 96)
    (ht : zSd n T (S 0 0) (99 :: 117 :: 114 :: 118 :: 101 :: 32 :: nm :: 32 :: 61 :: 32 :: (zts d 25 ++ 59 :: X))) :
    ∃ R, zrc n T S = (1, R) ∧ R 0 0 = S 0 0 + 10 + (zts d 25).length + 1 ∧ R 0 3 = p ∧ R 0 4 = cn + 1 ∧ (R 1 (6 * cn) = nm - 96 ∧ ∀ q, q < 6 * cn → R 1 q = S 1 q) ∧ (zcan p (R (7 + cn)) ∧ zflt (R (7 + cn)) ∧ ztop (R (7 + cn)) = dg) ∧ ∀ j, 7 ≤ j → j ≤ 12 → j ≠ 7 + cn → R j = S j := by
  obtain ⟨Z, eZ⟩ : ∃ Z, Z = zts d 25 := ⟨_, rfl⟩
  rw [← eZ] at ht ⊢
  obtain ⟨t0, ht⟩ := zSd.c ht
  obtain ⟨t1, ht⟩ := zSd.c ht
  obtain ⟨t2, ht⟩ := zSd.c ht
  obtain ⟨t3, ht⟩ := zSd.c ht
  obtain ⟨t4, ht⟩ := zSd.c ht
  obtain ⟨t5, ht⟩ := zSd.c ht
  obtain ⟨t6, ht⟩ := zSd.c ht
  obtain ⟨t7, ht⟩ := zSd.c ht
  obtain ⟨t8, ht⟩ := zSd.c ht
  obtain ⟨k, ek⟩ : ∃ k, k = S 0 0 := ⟨_, rfl⟩
  rw [← ek] at t0 t1 t2 t3 t4 t5 t6 t7 t8 ht ⊢
  rw [show k + 1 + 1 = k + 2 by omega] at t2 t3 t4 t5 t6 t7 t8 ht
  rw [show k + 2 + 1 = k + 3 by omega] at t3 t4 t5 t6 t7 t8 ht
  rw [show k + 3 + 1 = k + 4 by omega] at t4 t5 t6 t7 t8 ht
  rw [show k + 4 + 1 = k + 5 by omega] at t5 t6 t7 t8 ht
  rw [show k + 5 + 1 = k + 6 by omega] at t6 t7 t8 ht
  rw [show k + 6 + 1 = k + 7 by omega] at t7 t8 ht
  rw [show k + 7 + 1 = k + 8 by omega] at t8 ht
  rw [show k + 8 + 1 = k + 9 by omega] at ht
  have tE : zby n T (k + 10 + (Z).length) = 59 := by
    have z := (zSd.c (zSd.app (zSd.c ht).2).2).1
    rw [show k + 9 + 1 = k + 10 by omega] at z
    exact z
  have w1 : zwd n T 1 (S 0 0) = 1 := zwd_w5 1 (by decide) (fun j hj => by
    rw [← ek]
    rcases (show j = 0 ∨ j = 1 ∨ j = 2 ∨ j = 3 ∨ j = 4 by omega) with e | e | e | e | e <;> subst e
    · rw [show k + ((0 : Nat) : Int) = k by omega, t0]; decide
    · exact t1.trans (by decide)
    · exact t2.trans (by decide)
    · exact t3.trans (by decide)
    · exact t4.trans (by decide)) (fun j hj => by
    rcases (show j = 0 ∨ j = 1 ∨ j = 2 ∨ j = 3 ∨ j = 4 by omega) with e | e | e | e | e <;> subst e <;> decide) (by rw [← ek]; exact t5)
  obtain ⟨A, eA⟩ : ∃ A, A = zsr S (S 0 0 + 5) (S 0 1) (S 0 2) := ⟨_, rfl⟩
  obtain ⟨C, eC⟩ : ∃ C, C = zskS n T A := ⟨_, rfl⟩
  have A0 : A 0 0 = k + 5 := by rw [eA, ek]; rfl
  have C0 : C 0 0 = k + 6 := by
    rw [eC]
    show zsk n T (A 0 0) = _
    rw [A0, zsk_1 t5 (by rw [show k + 5 + 1 = k + 6 by omega]; omega)]
    omega
  have C3 : C 0 3 = p := by rw [eC, eA]; exact h3
  have C4 : C 0 4 = cn := by rw [eC, eA]; exact h4
  have Ck : ∀ j, j ≠ 0 → C j = S j := fun j j0 => by
    rw [eC]
    show zsr A _ _ _ j = _
    rw [zsr_ne j0, eA, zsr_ne j0]
  obtain ⟨N, n1, n2, n3, n4, n5, n6⟩ := zrnm_q (n := n) (T := T) (S := C) (nm := nm) (cn := cn) (by omega) C4 hnm (by rw [C0]; exact t6) (by rw [C0, show k + 6 + 1 = k + 7 by omega]; exact t7) (by rw [Ck 1 (by decide)]; exact hu)
  have N0 : N 0 0 = k + 7 := by rw [n2, C0]; omega
  have x1 := zxp_yk (n := n) (T := T) (S := N) (sg := 61) (k := k + 8) (by rw [N0, zsk_1 t7 (by rw [show k + 7 + 1 = k + 8 by omega, t8]; decide)]; omega) t8
  obtain ⟨E, eE⟩ : ∃ E, E = zsr N (k + 8 + 1) (N 0 1) (N 0 2) := ⟨_, rfl⟩
  rw [← eE] at x1
  have E0 : E 0 0 = k + 9 := by
    rw [eE]
    show k + 8 + 1 = _
    omega
  have E3 : E 0 3 = p := by rw [eE]; exact n3.trans C3
  have E4 : E 0 4 = cn := by rw [eE]; exact n4.trans C4
  have Ek : ∀ j, j ≠ 0 → E j = N j := fun j j0 => by rw [eE, zsr_ne j0]
  obtain ⟨R, r1, r2, r3, r4, r5, r6, r7, r8⟩ := zrs_q hpr hp hd (fun a b q => hz a b (by omega)) (S := E) E3 (by rw [E0, ← eZ]; exact ht)
  rw [← eZ] at r2
  have R0 : R 0 0 = k + 10 + (Z).length := by rw [r2, E0]; omega
  have x2 := zxp_yk (n := n) (T := T) (S := R) (sg := 59) (k := k + 10 + (Z).length) (by rw [R0]; exact zsk_at (by rw [tE]; decide)) tE
  obtain ⟨G, eG⟩ : ∃ G, G = zsr R (k + 10 + (Z).length + 1) (R 0 1) (R 0 2) := ⟨_, rfl⟩
  rw [← eG] at x2
  have G3 : G 0 3 = p := by rw [eG]; exact r3
  have G4 : G 0 4 = cn := by rw [eG]; exact r4.trans E4
  have Gk : ∀ j, j ≠ 0 → G j = R j := fun j j0 => by rw [eG, zsr_ne j0]
  obtain ⟨a, ha, hne⟩ := hh
  have tp : ztop (R 20) = dg := by
    obtain ⟨K, iK, φ, h⟩ := zKp_ex hpr
    have t4 := zT_le (R 20)
    have low : dg ≤ ztop (R 20) := Classical.byContradiction fun z => hne (by
      rw [← r7 a (dg.toNat - a) (by omega)]
      exact zT_z (by omega) (by omega))
    have up : ztop (R 20) ≤ dg := Classical.byContradiction fun z => by
      obtain ⟨i, j, hij, e, ne⟩ := zT_ex (c := R 20) (by omega)
      exact ne (by rw [r7 i j hij]; exact hz i j (by omega))
    omega
  obtain ⟨Q, eQ⟩ : ∃ Q, Q = zsd (zset G (7 + (G 0 4).toNat) (G (20 + 0))) (G 0 3) (G 0 4 + 1) := ⟨_, rfl⟩
  have ecn : (G 0 4).toNat = cn := by rw [G4]; omega
  rw [ecn] at eQ
  have Qk : ∀ j, j ≠ 0 → j ≠ 7 + cn → Q j = G j := fun j j0 j7 => by rw [eQ, zsd_ne j0, zset_ne _ _ j7]
  have Q7 : Q (7 + cn) = R 20 := by rw [eQ, zsd_ne (by omega), zset_self]; exact Gk 20 (by decide)
  refine ⟨Q, ?_, ?_, ?_, ?_, ⟨?_, fun q hq => ?_⟩, ⟨?_, ?_, ?_⟩, fun j j7 j12 jn => ?_⟩
  · unfold zrc
    rw [w1, if_neg (by decide), if_neg (by rw [h4]; omega), ← eA, ← eC]
    unfold zrc1
    rw [n1]
    dsimp only
    rw [if_neg (by decide), x1]
    dsimp only
    rw [if_neg (by decide)]
    unfold zrc2
    rw [r1]
    dsimp only
    rw [if_neg (by decide), x2]
    dsimp only
    rw [if_neg (by decide)]
    unfold zrc3
    rw [if_neg (by rw [show G (20 + 0) = R 20 from Gk 20 (by decide), tp]; omega), ecn, ← eQ]
  · rw [eQ]
    show zset G (7 + cn) (G (20 + 0)) 0 0 = _
    rw [zset_ne _ _ (by omega), eG]
    rfl
  · rw [eQ]
    exact G3
  · rw [eQ]
    show G 0 4 + 1 = _
    rw [G4]
  · rw [Qk 1 (by decide) (by omega), Gk 1 (by decide), r8 1 (by decide) (by decide) (by decide) (by decide) (by decide) (by decide) (by decide), Ek 1 (by decide)]
    exact n5.1
  · rw [Qk 1 (by decide) (by omega), Gk 1 (by decide), r8 1 (by decide) (by decide) (by decide) (by decide) (by decide) (by decide) (by decide), Ek 1 (by decide), n5.2 q hq, Ck 1 (by decide)]
  · rw [Q7]
    exact r5
  · rw [Q7]
    exact r6
  · rw [Q7]
    exact tp
  · rw [Qk j (by omega) jn, Gk j (by omega), r8 j (by omega) (by omega) (by omega) (by omega) (by omega) (by omega) (by omega), Ek j (by omega), n6 j (by omega) (by omega), Ck j (by omega)]
end ZMb
