section ZGc
/-- what is made, both -/
def zMkB (M : zCt) (S : zS2) (c : Int × zCt) (m : Int × zS2) : Prop := zVE c.2 M ∧ zFm S m.2 ∧ zCI c.2 ∧ ((m.1 = 0 ∧ (c.1 = 0 ∨ ztop (c.2.1 27) < 1)) ∨ (m.1 ≠ 0 ∧ c.1 ≠ 0 ∧ 1 ≤ ztop (c.2.1 27) ∧ zflt (c.2.1 27) ∧ ∀ q : Nat, q < 25 → m.2 3 (25 * 144 + q) = c.2.1 27 q))
theorem zMkB_no {M : zCt} {S : zS2} (hC : zCI M) : zMkB M S (0, M) (0, S) := ⟨zVE.rf, zFm.rf, hC, Or.inl ⟨rfl, Or.inl rfl⟩⟩
theorem zg25 {c d : Nat → Int} (h1 : ∀ i j : Nat, i + j ≤ 4 → c (5 * i + j) = d (5 * i + j)) (fc : zflt c) (fd : zflt d) : ∀ q : Nat, q < 25 → c q = d q := fun q hq => by
  have e : q = 5 * (q / 5) + q % 5 := by omega
  rw [e]
  by_cases z : q / 5 + q % 5 ≤ 4
  · exact h1 _ _ z
  · rw [fc _ _ (by omega) (by omega) (by omega), fd _ _ (by omega) (by omega) (by omega)]
theorem zmk_30 (hall : ∀ (i : Int) (M : zCt) (S : zS2) (a b how t : Int), zBm i M S → zCI M → zMkB M S (zc_build M a b how t) (zm_makes S a b how t)) (L : Nat) : zlK_30 zBm L := by
  intro i M S a b how t _ _ hR hC hI _ _ _ _
  have hB := hR.1.2.2.1
  have hn := hC.cn
  have ref : ∀ (N : zCt) (U : zS2), zVE N M → zFm S U → zCI N → (-1 : Int) = (-1 : Int) ∧ zBm (i + 8) (zc_refuse N 3) (za U 2 3 ((U 2 3) + 1)) := fun N U h1 h2 h3 => by
    have hB2 := zBm_q (j := i) hR hC h1 h2
    rw [zB_refuse (by decide)]
    exact ⟨rfl, zBl_ref (i := i + 8) hB2.1 h3 (by decide), zBx_ref hB2.2 _ _⟩
  by_cases h6 : 6 ≤ M.1 0 4
  · have ec : zc_make M a b how t = (-1, zc_refuse M 3) := by
      unfold zc_make
      rw [if_pos h6, zlet_v]
    have em : zm_make S a b how t = (-1, za S 2 3 ((S 2 3) + 1)) := by
      unfold zm_make
      rw [if_pos (show S 0 13 = 6 by rw [hB.2.1]; omega), zlet_v]
      rfl
    rw [ec, em]
    exact ref M S zVE.rf zFm.rf hC
  · obtain ⟨c1, hc1⟩ : ∃ c, c = zc_build M a b how t := ⟨_, rfl⟩
    obtain ⟨m1, hm1⟩ : ∃ m, m = zm_makes S a b how t := ⟨_, rfl⟩
    have hk := hall i M S a b how t hR hC
    rw [← hc1, ← hm1] at hk
    obtain ⟨z, N⟩ := c1
    obtain ⟨z', U⟩ := m1
    obtain ⟨k1, k2, k3, k4⟩ := hk
    replace k1 : zVE N M := k1
    replace k2 : zFm S U := k2
    replace k3 : zCI N := k3
    have ec : zc_make M a b how t = (if z = 0 then (-1, zc_refuse N 3) else (if 1 ≤ ztop (N.1 27) then ((zw_keep N).1 0 4, zw_add (zw_keep N)) else (-1, zc_refuse N 3))) := by
      unfold zc_make
      rw [if_neg h6, ← hc1]
      simp only [zlet_v]
    have em : zm_make S a b how t = (if z' = 0 then (-1, za U 2 3 ((U 2 3) + 1)) else ((za (za (zm_copies (zm_keeps U) ((zm_keeps U) 0 13) 144) 5 ((zm_copies (zm_keeps U) ((zm_keeps U) 0 13) 144) 0 13).toNat 0) 0 13 ((za (zm_copies (zm_keeps U) ((zm_keeps U) 0 13) 144) 5 ((zm_copies (zm_keeps U) ((zm_keeps U) 0 13) 144) 0 13).toNat 0) 0 13 + 1)) 0 13 - 1, za (za (zm_copies (zm_keeps U) ((zm_keeps U) 0 13) 144) 5 ((zm_copies (zm_keeps U) ((zm_keeps U) 0 13) 144) 0 13).toNat 0) 0 13 ((za (zm_copies (zm_keeps U) ((zm_keeps U) 0 13) 144) 5 ((zm_copies (zm_keeps U) ((zm_keeps U) 0 13) 144) 0 13).toNat 0) 0 13 + 1))) := by
      unfold zm_make
      rw [if_neg (show ¬ S 0 13 = 6 by rw [hB.2.1]; omega), ← hm1]
      simp only [zlet_v, zm_refuses]
      rfl
    rw [ec, em]
    rcases k4 with ⟨w1, w2⟩ | ⟨w1, w2, w3, w4, w5⟩
    · have w1' : z' = 0 := w1
      rw [if_pos w1']
      have e2 : (if z = 0 then ((-1 : Int), zc_refuse N 3) else (if 1 ≤ ztop (N.1 27) then ((zw_keep N).1 0 4, zw_add (zw_keep N)) else (-1, zc_refuse N 3))) = (-1, zc_refuse N 3) := by
        by_cases y : z = 0
        · rw [if_pos y]
        · rw [if_neg y]
          rcases w2 with w2 | w2
          · exact absurd w2 y
          · have w2' : ztop (N.1 27) < 1 := w2
            rw [if_neg (by omega)]
      rw [e2]
      exact ref N U k1 k2 k3
    · have w1' : ¬ z' = 0 := w1
      have w2' : ¬ z = 0 := w2
      have w3' : 1 ≤ ztop (N.1 27) := w3
      rw [if_neg w1', if_neg w2', if_pos w3']
      have hB2 := zBm_q (j := i) hR hC k1 k2
      have hK := zB_keepM (j := i) hB2 k3
      have kp : ∀ a i : Nat, a ≠ 40 → a ≠ 41 → ¬ (a = 0 ∧ (i = 5 ∨ i = 6)) → (zw_keep N).1 a i = N.1 a i := fun a i h1 h2 h3 => zw_keep_o h1 h2 h3
      have k27 : (zw_keep N).1 27 = N.1 27 := funext fun q => kp 27 q (by decide) (by decide) (by omega)
      have k3c := k3.ct
      obtain ⟨u, hu⟩ : ∃ u : Nat, N.1 0 5 = u := ⟨(N.1 0 5).toNat, by omega⟩
      have hp := hB2.1.2.2.2
      obtain ⟨v, _, _, so, _, _⟩ := zm_keeps_sp U u (by rw [hp.1, hu]) (by omega)
      have n4 : N.1 0 4 = M.1 0 4 := k1.2 0 4 (by omega) (by omega)
      obtain ⟨V, v1, v2, v3⟩ := zB_addM (j := i + 8) hK (zi_keep k3) (by rw [kp 0 4 (by decide) (by decide) (by omega), n4]; omega) (fun q hq => by
        rw [so 3 _ (by omega) (by omega), k27]
        exact w5 q hq) (by rw [k27]; exact w4) (by rw [k27]; exact w3')
      rw [v1]
      exact ⟨v2.symm, v3⟩
theorem zquo_fl {e r : Nat → Int} {p : Int} : zflt (zquo e r p).1 := fun A B hA hB hAB => by
  unfold zquo zquoL
  refine zforD_inv (I := fun s : (Nat → Int) × (Nat → Int) => s.1 (5 * A + B) = 0) ?_ (fun d s hs => ?_) _
  · show zone 0 (5 * A + B) = 0
    unfold zone
    split <;> rfl
  · unfold zquo_out
    refine zforD_inv (I := fun s : (Nat → Int) × (Nat → Int) => s.1 (5 * A + B) = 0) hs (fun i s hs => ?_) _
    unfold zquo_in
    show zput s.1 i (d - i) _ (5 * A + B) = 0
    unfold zput
    split
    · unfold zup
      rw [if_neg (by omega)]; exact hs
    · exact hs
theorem znorm_fl {c : Nat → Int} {p : Int} (h : zflt c) : zflt (znorm c p) := fun A B hA hB hAB => by
  unfold znorm
  rw [h A B hA hB hAB]
  simp
theorem zcmP_fl {a b : Nat → Int} {p : Int} : zflt (zcmP a b p) := by
  unfold zcmP zcom
  exact znorm_fl zquo_fl
theorem zaddS_fl {c d : Nat → Int} {o p : Int} (h : zflt c) : zflt (zaddS c d 0 0 o p) := fun A B hA hB hAB => by
  have e := zaddS_out4 (c := c) (d := d) (r := 0) (u := 0) (o := o) (p := p) hA hB hAB
  exact e.trans (h A B hA hB hAB)
end ZGc
