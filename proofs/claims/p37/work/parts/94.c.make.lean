section ZGc
/-- what is made, both -/
def zMkB (M : zCt) (S : zS2) (c : Int × zCt) (m : Int × zS2) : Prop := zVE c.2 M ∧ zFm S m.2 ∧ zCI c.2 ∧ ((m.1 = 0 ∧ (c.1 = 0 ∨ ztop (c.2.1 27) < 1)) ∨ (m.1 ≠ 0 ∧ c.1 ≠ 0 ∧ 1 ≤ ztop (c.2.1 27) ∧ zflt (c.2.1 27) ∧ ∀ q : Nat, q < 25 → m.2 3 (25 * 144 + q) = c.2.1 27 q))
theorem zMkB_no {M : zCt} {S : zS2} (hC : zCI M) : zMkB M S (0, M) (0, S) := ⟨zVE.rf, zFm.rf, hC, Or.inl ⟨rfl, Or.inl rfl⟩⟩
theorem zg25 {c d : Nat → Int} (h1 : ∀ i j : Nat, i + j ≤ 4 → c (5 * i + j) = d (5 * i + j)) (fc : zflt c) (fd : zflt d) : ∀ q : Nat, q < 25 → c q = d q := fun q hq => by
  have e : q = 5 * (q / 5) + q % 5 := by omega
  rw [e]
  by_cases z : q / 5 + q % 5 ≤ 4
  · exact h1 _ _ z
  · rw [fc _ _ (by omega) (by omega) (by omega), fd _ _ (by omega) (by omega) (by omega)]
theorem zquo_fl {e r : Nat → Int} {p : Int} : zflt (zquo e r p).1 := fun A B hA hB hAB => by
  unfold zquo zquoL
  refine zforD_inv (I := fun s : (Nat → Int) × (Nat → Int) => s.1 (5 * A + B) = 0) ?_ (fun d s hs => ?_) _
  · show zone 0 (5 * A + B) = 0
    unfold zone
    split <;> rfl
  · unfold zquo_out
    refine zforD_inv (I := fun s : (Nat → Int) × (Nat → Int) => s.1 (5 * A + B) = 0) hs (fun i s hs => ?_) _
    unfold zquo_in
    show zput s.1 i (d - i) _ (5 * A + B) = 0
    unfold zput
    split
    · unfold zup
      rw [if_neg (by omega)]; exact hs
    · exact hs
theorem znorm_fl {c : Nat → Int} {p : Int} (h : zflt c) : zflt (znorm c p) := fun A B hA hB hAB => by
  unfold znorm
  rw [h A B hA hB hAB]
  simp
theorem zcmP_fl {a b : Nat → Int} {p : Int} : zflt (zcmP a b p) := by
  unfold zcmP zcom
  exact znorm_fl zquo_fl
theorem zaddS_fl {c d : Nat → Int} {o p : Int} (h : zflt c) : zflt (zaddS c d 0 0 o p) := fun A B hA hB hAB => by
  have e := zaddS_out4 (c := c) (d := d) (r := 0) (u := 0) (o := o) (p := p) hA hB hAB
  exact e.trans (h A B hA hB hAB)
end ZGc
