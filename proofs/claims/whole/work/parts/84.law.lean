section ZLb
/-- what is owed of feed -/
def zlK_0 (Rl : Int → zCt → zS2 → Prop) (L : Nat) : Prop := ∀ (i : Int) (M : zCt) (S : zS2) (a1 a2 a3 a4 a5 : Int), 0 ≤ i → i + 8 ≤ L → Rl i M S → zCI M → mI S → (-2147483648 ≤ a1 ∧ a1 ≤ 2147483647) → (-2147483648 ≤ a2 ∧ a2 ≤ 2147483647) → (-2147483648 ≤ a3 ∧ a3 ≤ 2147483647) → (-2147483648 ≤ a4 ∧ a4 ≤ 2147483647) → (-2147483648 ≤ a5 ∧ a5 ≤ 2147483647) → (zc_feed M a1 a2 a3 a4 a5).1 = (zm_feed S a1 a2 a3 a4 a5).1 ∧ Rl (i + 8) (zc_feed M a1 a2 a3 a4 a5).2 (zm_feed S a1 a2 a3 a4 a5).2
/-- what is owed of end -/
def zlK_1 (Rl : Int → zCt → zS2 → Prop) (L : Nat) : Prop := ∀ (i : Int) (M : zCt) (S : zS2) (a1 : Int), 0 ≤ i → i + 8 ≤ L → Rl i M S → zCI M → mI S → (-2147483648 ≤ a1 ∧ a1 ≤ 2147483647) → (zc_end M a1).1 = (zm_end S a1).1 ∧ Rl (i + 8) (zc_end M a1).2 (zm_end S a1).2
/-- what is owed of curves -/
def zlK_2 (Rl : Int → zCt → zS2 → Prop) (L : Nat) : Prop := ∀ (i : Int) (M : zCt) (S : zS2), 0 ≤ i → i + 8 ≤ L → Rl i M S → zCI M → mI S → (zc_curves M ).1 = (zm_curves S ).1 ∧ Rl (i + 8) (zc_curves M ).2 (zm_curves S ).2
/-- what is owed of fault -/
def zlK_3 (Rl : Int → zCt → zS2 → Prop) (L : Nat) : Prop := ∀ (i : Int) (M : zCt) (S : zS2) (a1 : Int), 0 ≤ i → i + 8 ≤ L → Rl i M S → zCI M → mI S → (-2147483648 ≤ a1 ∧ a1 ≤ 2147483647) → (zc_fault M a1).1 = zm_fault S a1 ∧ Rl (i + 8) (zc_fault M a1).2 S
/-- what is owed of has -/
def zlK_4 (Rl : Int → zCt → zS2 → Prop) (L : Nat) : Prop := ∀ (i : Int) (M : zCt) (S : zS2) (a1 : Int), 0 ≤ i → i + 8 ≤ L → Rl i M S → zCI M → mI S → (-2147483648 ≤ a1 ∧ a1 ≤ 2147483647) → (zc_has M a1).1 = zm_has S a1 ∧ Rl (i + 8) (zc_has M a1).2 S
/-- what is owed of letter -/
def zlK_5 (Rl : Int → zCt → zS2 → Prop) (L : Nat) : Prop := ∀ (i : Int) (M : zCt) (S : zS2) (a1 a2 : Int), 0 ≤ i → i + 8 ≤ L → Rl i M S → zCI M → mI S → (-2147483648 ≤ a1 ∧ a1 ≤ 2147483647) → (-2147483648 ≤ a2 ∧ a2 ≤ 2147483647) → (zc_letter M a1 a2).1 = zm_letter S a1 a2 ∧ Rl (i + 8) (zc_letter M a1 a2).2 S
/-- what is owed of term -/
def zlK_6 (Rl : Int → zCt → zS2 → Prop) (L : Nat) : Prop := ∀ (i : Int) (M : zCt) (S : zS2) (a1 a2 a3 : Int), 0 ≤ i → i + 8 ≤ L → Rl i M S → zCI M → mI S → (-2147483648 ≤ a1 ∧ a1 ≤ 2147483647) → (-2147483648 ≤ a2 ∧ a2 ≤ 2147483647) → (-2147483648 ≤ a3 ∧ a3 ≤ 2147483647) → (zc_term M a1 a2 a3).1 = zm_term S a1 a2 a3 ∧ Rl (i + 8) (zc_term M a1 a2 a3).2 S
/-- what is owed of degree -/
def zlK_7 (Rl : Int → zCt → zS2 → Prop) (L : Nat) : Prop := ∀ (i : Int) (M : zCt) (S : zS2) (a1 : Int), 0 ≤ i → i + 8 ≤ L → Rl i M S → zCI M → mI S → (-2147483648 ≤ a1 ∧ a1 ≤ 2147483647) → (zc_degree M a1).1 = zm_degree S a1 ∧ Rl (i + 8) (zc_degree M a1).2 S
/-- what is owed of value -/
def zlK_8 (Rl : Int → zCt → zS2 → Prop) (L : Nat) : Prop := ∀ (i : Int) (M : zCt) (S : zS2) (a1 a2 : Int), 0 ≤ i → i + 8 ≤ L → Rl i M S → zCI M → mI S → (-2147483648 ≤ a1 ∧ a1 ≤ 2147483647) → (-2147483648 ≤ a2 ∧ a2 ≤ 2147483647) → (zc_value M a1 a2).1 = zm_value S a1 a2 ∧ Rl (i + 8) (zc_value M a1 a2).2 S
/-- what is owed of point -/
def zlK_9 (Rl : Int → zCt → zS2 → Prop) (L : Nat) : Prop := ∀ (i : Int) (M : zCt) (S : zS2) (a1 a2 : Int), 0 ≤ i → i + 8 ≤ L → Rl i M S → zCI M → mI S → (-2147483648 ≤ a1 ∧ a1 ≤ 2147483647) → (-2147483648 ≤ a2 ∧ a2 ≤ 2147483647) → (zc_point M a1 a2).1 = zm_point S a1 a2 ∧ Rl (i + 8) (zc_point M a1 a2).2 S
/-- what is owed of order -/
def zlK_10 (Rl : Int → zCt → zS2 → Prop) (L : Nat) : Prop := ∀ (i : Int) (M : zCt) (S : zS2) (a1 a2 : Int), 0 ≤ i → i + 8 ≤ L → Rl i M S → zCI M → mI S → (-2147483648 ≤ a1 ∧ a1 ≤ 2147483647) → (-2147483648 ≤ a2 ∧ a2 ≤ 2147483647) → (zc_order M a1 a2).1 = (zm_order S a1 a2).1 ∧ Rl (i + 8) (zc_order M a1 a2).2 (zm_order S a1 a2).2
/-- what is owed of local -/
def zlK_11 (Rl : Int → zCt → zS2 → Prop) (L : Nat) : Prop := ∀ (i : Int) (M : zCt) (S : zS2) (a1 a2 a3 a4 : Int), 0 ≤ i → i + 8 ≤ L → Rl i M S → zCI M → mI S → (-2147483648 ≤ a1 ∧ a1 ≤ 2147483647) → (-2147483648 ≤ a2 ∧ a2 ≤ 2147483647) → (-2147483648 ≤ a3 ∧ a3 ≤ 2147483647) → (-2147483648 ≤ a4 ∧ a4 ≤ 2147483647) → (zc_local M a1 a2 a3 a4).1 = (zm_local S a1 a2 a3 a4).1 ∧ Rl (i + 8) (zc_local M a1 a2 a3 a4).2 (zm_local S a1 a2 a3 a4).2
/-- what is owed of singular -/
def zlK_12 (Rl : Int → zCt → zS2 → Prop) (L : Nat) : Prop := ∀ (i : Int) (M : zCt) (S : zS2) (a1 a2 : Int), 0 ≤ i → i + 8 ≤ L → Rl i M S → zCI M → mI S → (-2147483648 ≤ a1 ∧ a1 ≤ 2147483647) → (-2147483648 ≤ a2 ∧ a2 ≤ 2147483647) → (zc_singular M a1 a2).1 = (zm_singular S a1 a2).1 ∧ Rl (i + 8) (zc_singular M a1 a2).2 (zm_singular S a1 a2).2
/-- what is owed of tangent -/
def zlK_13 (Rl : Int → zCt → zS2 → Prop) (L : Nat) : Prop := ∀ (i : Int) (M : zCt) (S : zS2) (a1 a2 a3 a4 : Int), 0 ≤ i → i + 8 ≤ L → Rl i M S → zCI M → mI S → (-2147483648 ≤ a1 ∧ a1 ≤ 2147483647) → (-2147483648 ≤ a2 ∧ a2 ≤ 2147483647) → (-2147483648 ≤ a3 ∧ a3 ≤ 2147483647) → (-2147483648 ≤ a4 ∧ a4 ≤ 2147483647) → (zc_tangent M a1 a2 a3 a4).1 = (zm_tangent S a1 a2 a3 a4).1 ∧ Rl (i + 8) (zc_tangent M a1 a2 a3 a4).2 (zm_tangent S a1 a2 a3 a4).2
/-- what is owed of bend -/
def zlK_14 (Rl : Int → zCt → zS2 → Prop) (L : Nat) : Prop := ∀ (i : Int) (M : zCt) (S : zS2) (a1 a2 : Int), 0 ≤ i → i + 8 ≤ L → Rl i M S → zCI M → mI S → (-2147483648 ≤ a1 ∧ a1 ≤ 2147483647) → (-2147483648 ≤ a2 ∧ a2 ≤ 2147483647) → (zc_bend M a1 a2).1 = (zm_bend S a1 a2).1 ∧ Rl (i + 8) (zc_bend M a1 a2).2 (zm_bend S a1 a2).2
/-- what is owed of flex -/
def zlK_15 (Rl : Int → zCt → zS2 → Prop) (L : Nat) : Prop := ∀ (i : Int) (M : zCt) (S : zS2) (a1 a2 : Int), 0 ≤ i → i + 8 ≤ L → Rl i M S → zCI M → mI S → (-2147483648 ≤ a1 ∧ a1 ≤ 2147483647) → (-2147483648 ≤ a2 ∧ a2 ≤ 2147483647) → (zc_flex M a1 a2).1 = (zm_flex S a1 a2).1 ∧ Rl (i + 8) (zc_flex M a1 a2).2 (zm_flex S a1 a2).2
/-- what is owed of genus -/
def zlK_16 (Rl : Int → zCt → zS2 → Prop) (L : Nat) : Prop := ∀ (i : Int) (M : zCt) (S : zS2) (a1 : Int), 0 ≤ i → i + 8 ≤ L → Rl i M S → zCI M → mI S → (-2147483648 ≤ a1 ∧ a1 ≤ 2147483647) → (zc_genus M a1).1 = (zm_genus S a1).1 ∧ Rl (i + 8) (zc_genus M a1).2 (zm_genus S a1).2
/-- what is owed of common -/
def zlK_17 (Rl : Int → zCt → zS2 → Prop) (L : Nat) : Prop := ∀ (i : Int) (M : zCt) (S : zS2) (a1 a2 : Int), 0 ≤ i → i + 8 ≤ L → Rl i M S → zCI M → mI S → (-2147483648 ≤ a1 ∧ a1 ≤ 2147483647) → (-2147483648 ≤ a2 ∧ a2 ≤ 2147483647) → (zc_common M a1 a2).1 = (zm_common S a1 a2).1 ∧ Rl (i + 8) (zc_common M a1 a2).2 (zm_common S a1 a2).2
/-- what is owed of commonTerm -/
def zlK_18 (Rl : Int → zCt → zS2 → Prop) (L : Nat) : Prop := ∀ (i : Int) (M : zCt) (S : zS2) (a1 a2 a3 a4 : Int), 0 ≤ i → i + 8 ≤ L → Rl i M S → zCI M → mI S → (-2147483648 ≤ a1 ∧ a1 ≤ 2147483647) → (-2147483648 ≤ a2 ∧ a2 ≤ 2147483647) → (-2147483648 ≤ a3 ∧ a3 ≤ 2147483647) → (-2147483648 ≤ a4 ∧ a4 ≤ 2147483647) → (zc_commonTerm M a1 a2 a3 a4).1 = (zm_commonTerm S a1 a2 a3 a4).1 ∧ Rl (i + 8) (zc_commonTerm M a1 a2 a3 a4).2 (zm_commonTerm S a1 a2 a3 a4).2
/-- what is owed of times -/
def zlK_19 (Rl : Int → zCt → zS2 → Prop) (L : Nat) : Prop := ∀ (i : Int) (M : zCt) (S : zS2) (a1 a2 a3 : Int), 0 ≤ i → i + 8 ≤ L → Rl i M S → zCI M → mI S → (-2147483648 ≤ a1 ∧ a1 ≤ 2147483647) → (-2147483648 ≤ a2 ∧ a2 ≤ 2147483647) → (-2147483648 ≤ a3 ∧ a3 ≤ 2147483647) → (zc_times M a1 a2 a3).1 = (zm_times S a1 a2 a3).1 ∧ Rl (i + 8) (zc_times M a1 a2 a3).2 (zm_times S a1 a2 a3).2
/-- what is owed of rules -/
def zlK_20 (Rl : Int → zCt → zS2 → Prop) (L : Nat) : Prop := ∀ (i : Int) (M : zCt) (S : zS2) (a1 a2 a3 a4 : Int), 0 ≤ i → i + 8 ≤ L → Rl i M S → zCI M → mI S → (-2147483648 ≤ a1 ∧ a1 ≤ 2147483647) → (-2147483648 ≤ a2 ∧ a2 ≤ 2147483647) → (-2147483648 ≤ a3 ∧ a3 ≤ 2147483647) → (-2147483648 ≤ a4 ∧ a4 ≤ 2147483647) → (zc_rules M a1 a2 a3 a4).1 = (zm_rules S a1 a2 a3 a4).1 ∧ Rl (i + 8) (zc_rules M a1 a2 a3 a4).2 (zm_rules S a1 a2 a3 a4).2
/-- what is owed of rule -/
def zlK_21 (Rl : Int → zCt → zS2 → Prop) (L : Nat) : Prop := ∀ (i : Int) (M : zCt) (S : zS2) (a1 a2 a3 a4 : Int), 0 ≤ i → i + 8 ≤ L → Rl i M S → zCI M → mI S → (-2147483648 ≤ a1 ∧ a1 ≤ 2147483647) → (-2147483648 ≤ a2 ∧ a2 ≤ 2147483647) → (-2147483648 ≤ a3 ∧ a3 ≤ 2147483647) → (-2147483648 ≤ a4 ∧ a4 ≤ 2147483647) → (zc_rule M a1 a2 a3 a4).1 = (zm_rule S a1 a2 a3 a4).1 ∧ Rl (i + 8) (zc_rule M a1 a2 a3 a4).2 (zm_rule S a1 a2 a3 a4).2
/-- what is owed of size -/
def zlK_22 (Rl : Int → zCt → zS2 → Prop) (L : Nat) : Prop := ∀ (i : Int) (M : zCt) (S : zS2) (a1 a2 a3 : Int), 0 ≤ i → i + 8 ≤ L → Rl i M S → zCI M → mI S → (-2147483648 ≤ a1 ∧ a1 ≤ 2147483647) → (-2147483648 ≤ a2 ∧ a2 ≤ 2147483647) → (-2147483648 ≤ a3 ∧ a3 ≤ 2147483647) → (zc_size M a1 a2 a3).1 = (zm_size S a1 a2 a3).1 ∧ Rl (i + 8) (zc_size M a1 a2 a3).2 (zm_size S a1 a2 a3).2
/-- what is owed of meet -/
def zlK_23 (Rl : Int → zCt → zS2 → Prop) (L : Nat) : Prop := ∀ (i : Int) (M : zCt) (S : zS2) (a1 a2 a3 a4 : Int), 0 ≤ i → i + 8 ≤ L → Rl i M S → zCI M → mI S → (-2147483648 ≤ a1 ∧ a1 ≤ 2147483647) → (-2147483648 ≤ a2 ∧ a2 ≤ 2147483647) → (-2147483648 ≤ a3 ∧ a3 ≤ 2147483647) → (-2147483648 ≤ a4 ∧ a4 ≤ 2147483647) → (zc_meet M a1 a2 a3 a4).1 = (zm_meet S a1 a2 a3 a4).1 ∧ Rl (i + 8) (zc_meet M a1 a2 a3 a4).2 (zm_meet S a1 a2 a3 a4).2
/-- what is owed of parts -/
def zlK_24 (Rl : Int → zCt → zS2 → Prop) (L : Nat) : Prop := ∀ (i : Int) (M : zCt) (S : zS2) (a1 a2 a3 : Int), 0 ≤ i → i + 8 ≤ L → Rl i M S → zCI M → mI S → (-2147483648 ≤ a1 ∧ a1 ≤ 2147483647) → (-2147483648 ≤ a2 ∧ a2 ≤ 2147483647) → (-2147483648 ≤ a3 ∧ a3 ≤ 2147483647) → (zc_parts M a1 a2 a3).1 = (zm_parts S a1 a2 a3).1 ∧ Rl (i + 8) (zc_parts M a1 a2 a3).2 (zm_parts S a1 a2 a3).2
/-- what is owed of total -/
def zlK_25 (Rl : Int → zCt → zS2 → Prop) (L : Nat) : Prop := ∀ (i : Int) (M : zCt) (S : zS2) (a1 a2 a3 : Int), 0 ≤ i → i + 8 ≤ L → Rl i M S → zCI M → mI S → (-2147483648 ≤ a1 ∧ a1 ≤ 2147483647) → (-2147483648 ≤ a2 ∧ a2 ≤ 2147483647) → (-2147483648 ≤ a3 ∧ a3 ≤ 2147483647) → (zc_total M a1 a2 a3).1 = (zm_total S a1 a2 a3).1 ∧ Rl (i + 8) (zc_total M a1 a2 a3).2 (zm_total S a1 a2 a3).2
/-- what is owed of knot -/
def zlK_26 (Rl : Int → zCt → zS2 → Prop) (L : Nat) : Prop := ∀ (i : Int) (M : zCt) (S : zS2) (a1 a2 : Int), 0 ≤ i → i + 8 ≤ L → Rl i M S → zCI M → mI S → (-2147483648 ≤ a1 ∧ a1 ≤ 2147483647) → (-2147483648 ≤ a2 ∧ a2 ≤ 2147483647) → (zc_knot M a1 a2).1 = (zm_knot S a1 a2).1 ∧ Rl (i + 8) (zc_knot M a1 a2).2 (zm_knot S a1 a2).2
/-- what is owed of most -/
def zlK_27 (Rl : Int → zCt → zS2 → Prop) (L : Nat) : Prop := ∀ (i : Int) (M : zCt) (S : zS2) (a1 a2 a3 : Int), 0 ≤ i → i + 8 ≤ L → Rl i M S → zCI M → mI S → (-2147483648 ≤ a1 ∧ a1 ≤ 2147483647) → (-2147483648 ≤ a2 ∧ a2 ≤ 2147483647) → (-2147483648 ≤ a3 ∧ a3 ≤ 2147483647) → (zc_most M a1 a2 a3).1 = (zm_most S a1 a2 a3).1 ∧ Rl (i + 8) (zc_most M a1 a2 a3).2 (zm_most S a1 a2 a3).2
/-- what is owed of move -/
def zlK_28 (Rl : Int → zCt → zS2 → Prop) (L : Nat) : Prop := ∀ (i : Int) (M : zCt) (S : zS2) (a1 a2 a3 a4 a5 a6 : Int), 0 ≤ i → i + 8 ≤ L → Rl i M S → zCI M → mI S → (-2147483648 ≤ a1 ∧ a1 ≤ 2147483647) → (-2147483648 ≤ a2 ∧ a2 ≤ 2147483647) → (-2147483648 ≤ a3 ∧ a3 ≤ 2147483647) → (-2147483648 ≤ a4 ∧ a4 ≤ 2147483647) → (-2147483648 ≤ a5 ∧ a5 ≤ 2147483647) → (-2147483648 ≤ a6 ∧ a6 ≤ 2147483647) → (zc_move M a1 a2 a3 a4 a5 a6).1 = (zm_move S a1 a2 a3 a4 a5 a6).1 ∧ Rl (i + 8) (zc_move M a1 a2 a3 a4 a5 a6).2 (zm_move S a1 a2 a3 a4 a5 a6).2
/-- what is owed of moved -/
def zlK_29 (Rl : Int → zCt → zS2 → Prop) (L : Nat) : Prop := ∀ (i : Int) (M : zCt) (S : zS2) (a1 a2 a3 a4 a5 a6 a7 : Int), 0 ≤ i → i + 8 ≤ L → Rl i M S → zCI M → mI S → (-2147483648 ≤ a1 ∧ a1 ≤ 2147483647) → (-2147483648 ≤ a2 ∧ a2 ≤ 2147483647) → (-2147483648 ≤ a3 ∧ a3 ≤ 2147483647) → (-2147483648 ≤ a4 ∧ a4 ≤ 2147483647) → (-2147483648 ≤ a5 ∧ a5 ≤ 2147483647) → (-2147483648 ≤ a6 ∧ a6 ≤ 2147483647) → (-2147483648 ≤ a7 ∧ a7 ≤ 2147483647) → (zc_moved M a1 a2 a3 a4 a5 a6 a7).1 = zm_moved S a1 a2 a3 a4 a5 a6 a7 ∧ Rl (i + 8) (zc_moved M a1 a2 a3 a4 a5 a6 a7).2 S
/-- what is owed of make -/
def zlK_30 (Rl : Int → zCt → zS2 → Prop) (L : Nat) : Prop := ∀ (i : Int) (M : zCt) (S : zS2) (a1 a2 a3 a4 : Int), 0 ≤ i → i + 8 ≤ L → Rl i M S → zCI M → mI S → (-2147483648 ≤ a1 ∧ a1 ≤ 2147483647) → (-2147483648 ≤ a2 ∧ a2 ≤ 2147483647) → (-2147483648 ≤ a3 ∧ a3 ≤ 2147483647) → (-2147483648 ≤ a4 ∧ a4 ≤ 2147483647) → (zc_make M a1 a2 a3 a4).1 = (zm_make S a1 a2 a3 a4).1 ∧ Rl (i + 8) (zc_make M a1 a2 a3 a4).2 (zm_make S a1 a2 a3 a4).2
/-- what is owed of drop -/
def zlK_31 (Rl : Int → zCt → zS2 → Prop) (L : Nat) : Prop := ∀ (i : Int) (M : zCt) (S : zS2) (a1 : Int), 0 ≤ i → i + 8 ≤ L → Rl i M S → zCI M → mI S → (-2147483648 ≤ a1 ∧ a1 ≤ 2147483647) → (zc_drop M a1).1 = (zm_drop S a1).1 ∧ Rl (i + 8) (zc_drop M a1).2 (zm_drop S a1).2
/-- what is owed of undo -/
def zlK_32 (Rl : Int → zCt → zS2 → Prop) (L : Nat) : Prop := ∀ (i : Int) (M : zCt) (S : zS2), 0 ≤ i → i + 8 ≤ L → Rl i M S → zCI M → mI S → (zc_undo M ).1 = (zm_undo S ).1 ∧ Rl (i + 8) (zc_undo M ).2 (zm_undo S ).2
/-- what is owed of status -/
def zlK_33 (Rl : Int → zCt → zS2 → Prop) (L : Nat) : Prop := ∀ (i : Int) (M : zCt) (S : zS2) (a1 : Int), 0 ≤ i → i + 8 ≤ L → Rl i M S → zCI M → mI S → (-2147483648 ≤ a1 ∧ a1 ≤ 2147483647) → (zc_status M a1).1 = zm_status S a1 ∧ Rl (i + 8) (zc_status M a1).2 S
/-- what is owed: an answer of each call, and the bond of the two states -/
def zLwq (Rl : Int → zCt → zS2 → Prop) (L : Nat) : Prop := ∀ (i : Int) (M : zCt) (S : zS2), 0 ≤ i → i + 8 ≤ L → Rl i M S → zCI M → mI S → zqH S ∧ ∀ j : Nat, (j : Int) < M.1 0 4 → 0 ≤ ztop (M.2.1 j)
def zLwd (Rl : Int → zCt → zS2 → Prop) (L : Nat) : Prop := ∀ (i : Int) (M : zCt) (S : zS2), 0 ≤ i → i + 8 ≤ L → Rl i M S → Rl (i + 8) M S
def zLw (Rl : Int → zCt → zS2 → Prop) (L : Nat) : Prop := zLwq Rl L ∧ zLwd Rl L ∧ zlK_0 Rl L ∧ zlK_1 Rl L ∧ zlK_2 Rl L ∧ zlK_3 Rl L ∧ zlK_4 Rl L ∧ zlK_5 Rl L ∧ zlK_6 Rl L ∧ zlK_7 Rl L ∧ zlK_8 Rl L ∧ zlK_9 Rl L ∧ zlK_10 Rl L ∧ zlK_11 Rl L ∧ zlK_12 Rl L ∧ zlK_13 Rl L ∧ zlK_14 Rl L ∧ zlK_15 Rl L ∧ zlK_16 Rl L ∧ zlK_17 Rl L ∧ zlK_18 Rl L ∧ zlK_19 Rl L ∧ zlK_20 Rl L ∧ zlK_21 Rl L ∧ zlK_22 Rl L ∧ zlK_23 Rl L ∧ zlK_24 Rl L ∧ zlK_25 Rl L ∧ zlK_26 Rl L ∧ zlK_27 Rl L ∧ zlK_28 Rl L ∧ zlK_29 Rl L ∧ zlK_30 Rl L ∧ zlK_31 Rl L ∧ zlK_32 Rl L ∧ zlK_33 Rl L
theorem zLw.hq {Rl : Int → zCt → zS2 → Prop} {L : Nat} (h : zLw Rl L) : zLwq Rl L := h.1
theorem zLw.hd {Rl : Int → zCt → zS2 → Prop} {L : Nat} (h : zLw Rl L) : zLwd Rl L := h.2.1
theorem zLw.k0 {Rl : Int → zCt → zS2 → Prop} {L : Nat} (h : zLw Rl L) : zlK_0 Rl L := h.2.2.1
theorem zLw.k1 {Rl : Int → zCt → zS2 → Prop} {L : Nat} (h : zLw Rl L) : zlK_1 Rl L := h.2.2.2.1
theorem zLw.k2 {Rl : Int → zCt → zS2 → Prop} {L : Nat} (h : zLw Rl L) : zlK_2 Rl L := h.2.2.2.2.1
theorem zLw.k3 {Rl : Int → zCt → zS2 → Prop} {L : Nat} (h : zLw Rl L) : zlK_3 Rl L := h.2.2.2.2.2.1
theorem zLw.k4 {Rl : Int → zCt → zS2 → Prop} {L : Nat} (h : zLw Rl L) : zlK_4 Rl L := h.2.2.2.2.2.2.1
theorem zLw.k5 {Rl : Int → zCt → zS2 → Prop} {L : Nat} (h : zLw Rl L) : zlK_5 Rl L := h.2.2.2.2.2.2.2.1
theorem zLw.k6 {Rl : Int → zCt → zS2 → Prop} {L : Nat} (h : zLw Rl L) : zlK_6 Rl L := h.2.2.2.2.2.2.2.2.1
theorem zLw.k7 {Rl : Int → zCt → zS2 → Prop} {L : Nat} (h : zLw Rl L) : zlK_7 Rl L := h.2.2.2.2.2.2.2.2.2.1
theorem zLw.k8 {Rl : Int → zCt → zS2 → Prop} {L : Nat} (h : zLw Rl L) : zlK_8 Rl L := h.2.2.2.2.2.2.2.2.2.2.1
theorem zLw.k9 {Rl : Int → zCt → zS2 → Prop} {L : Nat} (h : zLw Rl L) : zlK_9 Rl L := h.2.2.2.2.2.2.2.2.2.2.2.1
theorem zLw.k10 {Rl : Int → zCt → zS2 → Prop} {L : Nat} (h : zLw Rl L) : zlK_10 Rl L := h.2.2.2.2.2.2.2.2.2.2.2.2.1
theorem zLw.k11 {Rl : Int → zCt → zS2 → Prop} {L : Nat} (h : zLw Rl L) : zlK_11 Rl L := h.2.2.2.2.2.2.2.2.2.2.2.2.2.1
theorem zLw.k12 {Rl : Int → zCt → zS2 → Prop} {L : Nat} (h : zLw Rl L) : zlK_12 Rl L := h.2.2.2.2.2.2.2.2.2.2.2.2.2.2.1
theorem zLw.k13 {Rl : Int → zCt → zS2 → Prop} {L : Nat} (h : zLw Rl L) : zlK_13 Rl L := h.2.2.2.2.2.2.2.2.2.2.2.2.2.2.2.1
theorem zLw.k14 {Rl : Int → zCt → zS2 → Prop} {L : Nat} (h : zLw Rl L) : zlK_14 Rl L := h.2.2.2.2.2.2.2.2.2.2.2.2.2.2.2.2.1
theorem zLw.k15 {Rl : Int → zCt → zS2 → Prop} {L : Nat} (h : zLw Rl L) : zlK_15 Rl L := h.2.2.2.2.2.2.2.2.2.2.2.2.2.2.2.2.2.1
theorem zLw.k16 {Rl : Int → zCt → zS2 → Prop} {L : Nat} (h : zLw Rl L) : zlK_16 Rl L := h.2.2.2.2.2.2.2.2.2.2.2.2.2.2.2.2.2.2.1
theorem zLw.k17 {Rl : Int → zCt → zS2 → Prop} {L : Nat} (h : zLw Rl L) : zlK_17 Rl L := h.2.2.2.2.2.2.2.2.2.2.2.2.2.2.2.2.2.2.2.1
theorem zLw.k18 {Rl : Int → zCt → zS2 → Prop} {L : Nat} (h : zLw Rl L) : zlK_18 Rl L := h.2.2.2.2.2.2.2.2.2.2.2.2.2.2.2.2.2.2.2.2.1
theorem zLw.k19 {Rl : Int → zCt → zS2 → Prop} {L : Nat} (h : zLw Rl L) : zlK_19 Rl L := h.2.2.2.2.2.2.2.2.2.2.2.2.2.2.2.2.2.2.2.2.2.1
theorem zLw.k20 {Rl : Int → zCt → zS2 → Prop} {L : Nat} (h : zLw Rl L) : zlK_20 Rl L := h.2.2.2.2.2.2.2.2.2.2.2.2.2.2.2.2.2.2.2.2.2.2.1
theorem zLw.k21 {Rl : Int → zCt → zS2 → Prop} {L : Nat} (h : zLw Rl L) : zlK_21 Rl L := h.2.2.2.2.2.2.2.2.2.2.2.2.2.2.2.2.2.2.2.2.2.2.2.1
theorem zLw.k22 {Rl : Int → zCt → zS2 → Prop} {L : Nat} (h : zLw Rl L) : zlK_22 Rl L := h.2.2.2.2.2.2.2.2.2.2.2.2.2.2.2.2.2.2.2.2.2.2.2.2.1
theorem zLw.k23 {Rl : Int → zCt → zS2 → Prop} {L : Nat} (h : zLw Rl L) : zlK_23 Rl L := h.2.2.2.2.2.2.2.2.2.2.2.2.2.2.2.2.2.2.2.2.2.2.2.2.2.1
theorem zLw.k24 {Rl : Int → zCt → zS2 → Prop} {L : Nat} (h : zLw Rl L) : zlK_24 Rl L := h.2.2.2.2.2.2.2.2.2.2.2.2.2.2.2.2.2.2.2.2.2.2.2.2.2.2.1
theorem zLw.k25 {Rl : Int → zCt → zS2 → Prop} {L : Nat} (h : zLw Rl L) : zlK_25 Rl L := h.2.2.2.2.2.2.2.2.2.2.2.2.2.2.2.2.2.2.2.2.2.2.2.2.2.2.2.1
theorem zLw.k26 {Rl : Int → zCt → zS2 → Prop} {L : Nat} (h : zLw Rl L) : zlK_26 Rl L := h.2.2.2.2.2.2.2.2.2.2.2.2.2.2.2.2.2.2.2.2.2.2.2.2.2.2.2.2.1
theorem zLw.k27 {Rl : Int → zCt → zS2 → Prop} {L : Nat} (h : zLw Rl L) : zlK_27 Rl L := h.2.2.2.2.2.2.2.2.2.2.2.2.2.2.2.2.2.2.2.2.2.2.2.2.2.2.2.2.2.1
theorem zLw.k28 {Rl : Int → zCt → zS2 → Prop} {L : Nat} (h : zLw Rl L) : zlK_28 Rl L := h.2.2.2.2.2.2.2.2.2.2.2.2.2.2.2.2.2.2.2.2.2.2.2.2.2.2.2.2.2.2.1
theorem zLw.k29 {Rl : Int → zCt → zS2 → Prop} {L : Nat} (h : zLw Rl L) : zlK_29 Rl L := h.2.2.2.2.2.2.2.2.2.2.2.2.2.2.2.2.2.2.2.2.2.2.2.2.2.2.2.2.2.2.2.1
theorem zLw.k30 {Rl : Int → zCt → zS2 → Prop} {L : Nat} (h : zLw Rl L) : zlK_30 Rl L := h.2.2.2.2.2.2.2.2.2.2.2.2.2.2.2.2.2.2.2.2.2.2.2.2.2.2.2.2.2.2.2.2.1
theorem zLw.k31 {Rl : Int → zCt → zS2 → Prop} {L : Nat} (h : zLw Rl L) : zlK_31 Rl L := h.2.2.2.2.2.2.2.2.2.2.2.2.2.2.2.2.2.2.2.2.2.2.2.2.2.2.2.2.2.2.2.2.2.1
theorem zLw.k32 {Rl : Int → zCt → zS2 → Prop} {L : Nat} (h : zLw Rl L) : zlK_32 Rl L := h.2.2.2.2.2.2.2.2.2.2.2.2.2.2.2.2.2.2.2.2.2.2.2.2.2.2.2.2.2.2.2.2.2.2.1
theorem zLw.k33 {Rl : Int → zCt → zS2 → Prop} {L : Nat} (h : zLw Rl L) : zlK_33 Rl L := h.2.2.2.2.2.2.2.2.2.2.2.2.2.2.2.2.2.2.2.2.2.2.2.2.2.2.2.2.2.2.2.2.2.2.2
set_option maxRecDepth 100000 in
set_option maxHeartbeats 4000000 in
theorem law_loop {p : Program} {l : Launch} {e : Env} {s : State} {m : MethodId} {below : List Frame} {meth : Method} {c : Code} {D : va_G} {cI cJ cZ cP cS cM : ClassId} {Lp : List Nat} {A : Nat → Prop} {b L o o2 : Nat} {xs : Nat → Int32} {Rl : Int → zCt → zS2 → Prop} (hK : zLw Rl L) (CX : zC p s m #[.ref b] meth c cL_law 4 ret RL wsL_law) (hX : va_X b L xs s s.heap) (hbl : b < s.heap.size) (hA : A = zQ [] s.heap.size) (hL : L ≤ 4096) (hd : o + 681 ≤ o2 ∨ o2 + 21 ≤ o) :
    ∀ (n : Nat) (i : Int) (M : zCt) (S : zS2) (f : Nat → va_E) (H : Heap) (locs : List Loc) (ls : Array Slot), 0 ≤ i → i ≤ L + 8 → (L + 8 - i).toNat < n → Rl i M S → zW D (zT cI cJ cZ cP cS cM) Lp A s f s.heap H locs → zCP cI cP cS cZ cM o M f → zCI M → zMO cI cJ o2 S f = f → mI S → lv_has ls 4 [(3, .int (zI i)), (2, .ref o2), (1, .ref o), (0, .ref b)] → W p l e room_1 s m #[.ref b] below meth c H locs 600000 7302250 (lw_Z below #[Value.ref b] s) (F0 m 18 ls []) := by
  have hbA : ¬ A b := by
    rw [hA]
    intro q
    rcases q with q | q
    · exact absurd q List.not_mem_nil
    · omega
  intro n
  induction n with
  | zero => intro i M S f H locs ls _ _ hn; exact absurd hn (Nat.not_lt_zero _)
  | succ n ih =>
    intro i M S f H locs ls hi hi8 hn hR hW hP hC hO hI hl
    refine lv_iload_n CX.1 CX.2.1 dL_law_18 rfl (lv_at hl 0 rfl) ?_
    refine lv_aload_n CX.1 CX.2.1 dL_law_19 rfl (lv_at hl 3 rfl) ?_
    refine va_slen CX.1 CX.2.1 hX hbl hbA hW.2.2.1 dL_law_20 ?_
    rw [show Int32.ofNat L = zI (L : Int) from Int32.toInt_inj.mp (by rw [Int32.toInt_ofNat', zI, Int32.toInt_ofInt])]
    refine lv_bipush (v := zI 8) CX.1 CX.2.1 dL_law_21 (by decide) ?_
    refine z_isub (z := (L : Int) - 8) CX dL_law_23 rfl ?_
    refine z_icmp_gt (tgt := 1528) CX dL_law_24 (by decide) (by constructor <;> omega) (by constructor <;> omega) (fun c0 => ?_) (fun c0 => ?_)
    · refine lv_iconst (v := 1) CX.1 CX.2.1 dL_law_1528 rfl ?_
      refine va_forget (fun q hq => ?_) ?_
      · have h := hW.2.2.1.2.2 q hq
        rw [hA] at h
        rcases h with h | h
        · exact absurd h List.not_mem_nil
        · exact h
      exact lw_ret CX.1 CX.2.1 CX.2.2.2.2.2.2.1 CX.2.2.2.2.2.1 dL_law_1529
    have hi2 : i + 8 ≤ L := by omega
    have hgo : ∀ (M2 : zCt) (S2 : zS2) (g : Nat → va_E) (H : Heap) (locs : List Loc), Rl (i + 8) M2 S2 → zW D (zT cI cJ cZ cP cS cM) Lp A s g s.heap H locs → zCP cI cP cS cZ cM o M2 g → zCI M2 → zMO cI cJ o2 S2 g = g → mI S2 → W p l e room_1 s m #[.ref b] below meth c H locs 600000 7302250 (lw_Z below #[Value.ref b] s) (F0 m 1522 ls []) := by
      intro M2 S2 g H locs hR hW hP hC hO hI
      refine lv_iinc (v := zI (i + 8)) (lv' := [(3, .int (zI (i + 8))), (2, .ref o2), (1, .ref o), (0, .ref b)]) CX.1 CX.2.1 dL_law_1522 hl (k := 0) rfl (zI_add _ _) (by decide) rfl (fun ls hl => ?_)
      refine lv_goto (tgt := 18) CX.1 CX.2.1 dL_law_1525 (by decide) ?_
      exact ih (i + 8) M2 S2 g H locs ls (by omega) (by omega) (by omega) hR hW hP hC hO hI hl
    refine lv_aload_n CX.1 CX.2.1 dL_law_27 rfl (lv_at hl 3 rfl) ?_
    refine lv_iload_n CX.1 CX.2.1 dL_law_28 rfl (lv_at hl 0 rfl) ?_
    refine z_sld CX hW hX hbl hbA hi (by omega) hL dL_law_29 ?_
    refine lv_bipush (v := zI 63) CX.1 CX.2.1 dL_law_30 (by decide) ?_
    refine lv_iand CX.1 CX.2.1 dL_law_32 ?_
    obtain ⟨v, hv1, hv2, ev⟩ := zI_of (zI (zx xs i.toNat) &&& zI 63)
    rw [ev]
    obtain ⟨hqH, hqT⟩ := hK.hq i M S hi hi2 hR hC hI
    by_cases c_0 : v = 0
    · have hk := hK.k0 i M S (zx xs (i + 1).toNat) (zx xs (i + 2).toNat) (zx xs (i + 3).toNat) (zx xs (i + 4).toNat) (zx xs (i + 5).toNat) hi hi2 hR hC hI (zx_r xs _) (zx_r xs _) (zx_r xs _) (zx_r xs _) (zx_r xs _)
      refine z_tin (K := 0) (off := 151) (tgt := 184) CX dL_law_33 ⟨hv1, hv2⟩ c_0 (by decide) (by decide) rfl (by decide) ?_
      exact zl_0 CX hX hbl hbA hi hi2 hL hW hP hC hO hI hd hl  hk.1 (fun g H locs hW hP hC hO hI => hgo _ _ g H locs hk.2 hW hP hC hO hI)
    by_cases c_1 : v = 1
    · have hk := hK.k1 i M S (zx xs (i + 1).toNat) hi hi2 hR hC hI (zx_r xs _)
      refine z_tin (K := 1) (off := 214) (tgt := 247) CX dL_law_33 ⟨hv1, hv2⟩ c_1 (by decide) (by decide) rfl (by decide) ?_
      exact zl_1 CX hX hbl hbA hi hi2 hL hW hP hC hO hI hd hl  hk.1 (fun g H locs hW hP hC hO hI => hgo _ _ g H locs hk.2 hW hP hC hO hI)
    by_cases c_2 : v = 2
    · have hk := hK.k2 i M S  hi hi2 hR hC hI 
      refine z_tin (K := 2) (off := 237) (tgt := 270) CX dL_law_33 ⟨hv1, hv2⟩ c_2 (by decide) (by decide) rfl (by decide) ?_
      exact zl_2 CX hX hbl hbA hi hi2 hL hW hP hC hO hI hd hl  hk.1 (fun g H locs hW hP hC hO hI => hgo _ _ g H locs hk.2 hW hP hC hO hI)
    by_cases c_3 : v = 3
    · have hk := hK.k3 i M S (zx xs (i + 1).toNat) hi hi2 hR hC hI (zx_r xs _)
      refine z_tin (K := 3) (off := 250) (tgt := 283) CX dL_law_33 ⟨hv1, hv2⟩ c_3 (by decide) (by decide) rfl (by decide) ?_
      exact zl_3 CX hX hbl hbA hi hi2 hL hW hP hC hO hI hd hl  hk.1 (fun g H locs hW hP hC hO hI => hgo _ _ g H locs hk.2 hW hP hC hO hI)
    by_cases c_4 : v = 4
    · have hk := hK.k4 i M S (zx xs (i + 1).toNat) hi hi2 hR hC hI (zx_r xs _)
      refine z_tin (K := 4) (off := 273) (tgt := 306) CX dL_law_33 ⟨hv1, hv2⟩ c_4 (by decide) (by decide) rfl (by decide) ?_
      exact zl_4 CX hX hbl hbA hi hi2 hL hW hP hC hO hI hd hl  hk.1 (fun g H locs hW hP hC hO hI => hgo _ _ g H locs hk.2 hW hP hC hO hI)
    by_cases c_5 : v = 5
    · have hk := hK.k5 i M S (zx xs (i + 1).toNat) (zx xs (i + 2).toNat) hi hi2 hR hC hI (zx_r xs _) (zx_r xs _)
      refine z_tin (K := 5) (off := 296) (tgt := 329) CX dL_law_33 ⟨hv1, hv2⟩ c_5 (by decide) (by decide) rfl (by decide) ?_
      exact zl_5 CX hX hbl hbA hi hi2 hL hW hP hC hO hI hd hl  hk.1 (fun g H locs hW hP hC hO hI => hgo _ _ g H locs hk.2 hW hP hC hO hI)
    by_cases c_6 : v = 6
    · have hk := hK.k6 i M S (zx xs (i + 1).toNat) (zx xs (i + 2).toNat) (zx xs (i + 3).toNat) hi hi2 hR hC hI (zx_r xs _) (zx_r xs _) (zx_r xs _)
      refine z_tin (K := 6) (off := 329) (tgt := 362) CX dL_law_33 ⟨hv1, hv2⟩ c_6 (by decide) (by decide) rfl (by decide) ?_
      exact zl_6 CX hX hbl hbA hi hi2 hL hW hP hC hO hI hd hl  hk.1 (fun g H locs hW hP hC hO hI => hgo _ _ g H locs hk.2 hW hP hC hO hI)
    by_cases c_7 : v = 7
    · have hk := hK.k7 i M S (zx xs (i + 1).toNat) hi hi2 hR hC hI (zx_r xs _)
      refine z_tin (K := 7) (off := 372) (tgt := 405) CX dL_law_33 ⟨hv1, hv2⟩ c_7 (by decide) (by decide) rfl (by decide) ?_
      exact zl_7 CX hX hbl hbA hi hi2 hL hW hP hC hO hI hd hl  hk.1 (fun g H locs hW hP hC hO hI => hgo _ _ g H locs hk.2 hW hP hC hO hI)
    by_cases c_8 : v = 8
    · have hk := hK.k8 i M S (zx xs (i + 1).toNat) (zx xs (i + 2).toNat) hi hi2 hR hC hI (zx_r xs _) (zx_r xs _)
      refine z_tin (K := 8) (off := 395) (tgt := 428) CX dL_law_33 ⟨hv1, hv2⟩ c_8 (by decide) (by decide) rfl (by decide) ?_
      exact zl_8 CX hX hbl hbA hi hi2 hL hW hP hC hO hI hd hl  hk.1 (fun g H locs hW hP hC hO hI => hgo _ _ g H locs hk.2 hW hP hC hO hI)
    by_cases c_9 : v = 9
    · have hk := hK.k9 i M S (zx xs (i + 1).toNat) (zx xs (i + 2).toNat) hi hi2 hR hC hI (zx_r xs _) (zx_r xs _)
      refine z_tin (K := 9) (off := 428) (tgt := 461) CX dL_law_33 ⟨hv1, hv2⟩ c_9 (by decide) (by decide) rfl (by decide) ?_
      exact zl_9 CX hX hbl hbA hi hi2 hL hW hP hC hO hI hd hl  hk.1 (fun g H locs hW hP hC hO hI => hgo _ _ g H locs hk.2 hW hP hC hO hI)
    by_cases c_10 : v = 10
    · have hk := hK.k10 i M S (zx xs (i + 1).toNat) (zx xs (i + 2).toNat) hi hi2 hR hC hI (zx_r xs _) (zx_r xs _)
      refine z_tin (K := 10) (off := 461) (tgt := 494) CX dL_law_33 ⟨hv1, hv2⟩ c_10 (by decide) (by decide) rfl (by decide) ?_
      exact zl_10 CX hX hbl hbA hi hi2 hL hW hP hC hO hI hd hl  hk.1 (fun g H locs hW hP hC hO hI => hgo _ _ g H locs hk.2 hW hP hC hO hI)
    by_cases c_11 : v = 11
    · have hk := hK.k11 i M S (zx xs (i + 1).toNat) (zx xs (i + 2).toNat) (zx xs (i + 3).toNat) (zx xs (i + 4).toNat) hi hi2 hR hC hI (zx_r xs _) (zx_r xs _) (zx_r xs _) (zx_r xs _)
      refine z_tin (K := 11) (off := 494) (tgt := 527) CX dL_law_33 ⟨hv1, hv2⟩ c_11 (by decide) (by decide) rfl (by decide) ?_
      exact zl_11 CX hX hbl hbA hi hi2 hL hW hP hC hO hI hd hl  hk.1 (fun g H locs hW hP hC hO hI => hgo _ _ g H locs hk.2 hW hP hC hO hI)
    by_cases c_12 : v = 12
    · have hk := hK.k12 i M S (zx xs (i + 1).toNat) (zx xs (i + 2).toNat) hi hi2 hR hC hI (zx_r xs _) (zx_r xs _)
      refine z_tin (K := 12) (off := 547) (tgt := 580) CX dL_law_33 ⟨hv1, hv2⟩ c_12 (by decide) (by decide) rfl (by decide) ?_
      exact zl_12 CX hX hbl hbA hi hi2 hL hW hP hC hO hI hd hl  hk.1 (fun g H locs hW hP hC hO hI => hgo _ _ g H locs hk.2 hW hP hC hO hI)
    by_cases c_13 : v = 13
    · have hk := hK.k13 i M S (zx xs (i + 1).toNat) (zx xs (i + 2).toNat) (zx xs (i + 3).toNat) (zx xs (i + 4).toNat) hi hi2 hR hC hI (zx_r xs _) (zx_r xs _) (zx_r xs _) (zx_r xs _)
      refine z_tin (K := 13) (off := 580) (tgt := 613) CX dL_law_33 ⟨hv1, hv2⟩ c_13 (by decide) (by decide) rfl (by decide) ?_
      exact zl_13 CX hX hbl hbA hi hi2 hL hW hP hC hO hI hd hl  hk.1 (fun g H locs hW hP hC hO hI => hgo _ _ g H locs hk.2 hW hP hC hO hI)
    by_cases c_14 : v = 14
    · have hk := hK.k14 i M S (zx xs (i + 1).toNat) (zx xs (i + 2).toNat) hi hi2 hR hC hI (zx_r xs _) (zx_r xs _)
      refine z_tin (K := 14) (off := 633) (tgt := 666) CX dL_law_33 ⟨hv1, hv2⟩ c_14 (by decide) (by decide) rfl (by decide) ?_
      exact zl_14 CX hX hbl hbA hi hi2 hL hW hP hC hO hI hd hl  hk.1 (fun g H locs hW hP hC hO hI => hgo _ _ g H locs hk.2 hW hP hC hO hI)
    by_cases c_15 : v = 15
    · have hk := hK.k15 i M S (zx xs (i + 1).toNat) (zx xs (i + 2).toNat) hi hi2 hR hC hI (zx_r xs _) (zx_r xs _)
      refine z_tin (K := 15) (off := 666) (tgt := 699) CX dL_law_33 ⟨hv1, hv2⟩ c_15 (by decide) (by decide) rfl (by decide) ?_
      exact zl_15 CX hX hbl hbA hi hi2 hL hW hP hC hO hI hd hl  hk.1 (fun g H locs hW hP hC hO hI => hgo _ _ g H locs hk.2 hW hP hC hO hI)
    by_cases c_16 : v = 16
    · have hk := hK.k16 i M S (zx xs (i + 1).toNat) hi hi2 hR hC hI (zx_r xs _)
      refine z_tin (K := 16) (off := 699) (tgt := 732) CX dL_law_33 ⟨hv1, hv2⟩ c_16 (by decide) (by decide) rfl (by decide) ?_
      exact zl_16 CX hX hbl hbA hi hi2 hL hW hP hC hO hI hd hl  hk.1 (fun g H locs hW hP hC hO hI => hgo _ _ g H locs hk.2 hW hP hC hO hI)
    by_cases c_17 : v = 17
    · have hk := hK.k17 i M S (zx xs (i + 1).toNat) (zx xs (i + 2).toNat) hi hi2 hR hC hI (zx_r xs _) (zx_r xs _)
      refine z_tin (K := 17) (off := 722) (tgt := 755) CX dL_law_33 ⟨hv1, hv2⟩ c_17 (by decide) (by decide) rfl (by decide) ?_
      exact zl_17 CX hX hbl hbA hi hi2 hL hW hP hC hO hI hd hl hqH hk.1 (fun g H locs hW hP hC hO hI => hgo _ _ g H locs hk.2 hW hP hC hO hI)
    by_cases c_18 : v = 18
    · have hk := hK.k18 i M S (zx xs (i + 1).toNat) (zx xs (i + 2).toNat) (zx xs (i + 3).toNat) (zx xs (i + 4).toNat) hi hi2 hR hC hI (zx_r xs _) (zx_r xs _) (zx_r xs _) (zx_r xs _)
      refine z_tin (K := 18) (off := 755) (tgt := 788) CX dL_law_33 ⟨hv1, hv2⟩ c_18 (by decide) (by decide) rfl (by decide) ?_
      exact zl_18 CX hX hbl hbA hi hi2 hL hW hP hC hO hI hd hl hqH hk.1 (fun g H locs hW hP hC hO hI => hgo _ _ g H locs hk.2 hW hP hC hO hI)
    by_cases c_19 : v = 19
    · have hk := hK.k19 i M S (zx xs (i + 1).toNat) (zx xs (i + 2).toNat) (zx xs (i + 3).toNat) hi hi2 hR hC hI (zx_r xs _) (zx_r xs _) (zx_r xs _)
      refine z_tin (K := 19) (off := 808) (tgt := 841) CX dL_law_33 ⟨hv1, hv2⟩ c_19 (by decide) (by decide) rfl (by decide) ?_
      exact zl_19 CX hX hbl hbA hi hi2 hL hW hP hC hO hI hd hl hqH hk.1 (fun g H locs hW hP hC hO hI => hgo _ _ g H locs hk.2 hW hP hC hO hI)
    by_cases c_20 : v = 20
    · have hk := hK.k20 i M S (zx xs (i + 1).toNat) (zx xs (i + 2).toNat) (zx xs (i + 3).toNat) (zx xs (i + 4).toNat) hi hi2 hR hC hI (zx_r xs _) (zx_r xs _) (zx_r xs _) (zx_r xs _)
      refine z_tin (K := 20) (off := 851) (tgt := 884) CX dL_law_33 ⟨hv1, hv2⟩ c_20 (by decide) (by decide) rfl (by decide) ?_
      exact zl_20 CX hX hbl hbA hi hi2 hL hW hP hC hO hI hd hl hqH hk.1 (fun g H locs hW hP hC hO hI => hgo _ _ g H locs hk.2 hW hP hC hO hI)
    by_cases c_21 : v = 21
    · have hk := hK.k21 i M S (zx xs (i + 1).toNat) (zx xs (i + 2).toNat) (zx xs (i + 3).toNat) (zx xs (i + 4).toNat) hi hi2 hR hC hI (zx_r xs _) (zx_r xs _) (zx_r xs _) (zx_r xs _)
      refine z_tin (K := 21) (off := 904) (tgt := 937) CX dL_law_33 ⟨hv1, hv2⟩ c_21 (by decide) (by decide) rfl (by decide) ?_
      exact zl_21 CX hX hbl hbA hi hi2 hL hW hP hC hO hI hd hl hqH hk.1 (fun g H locs hW hP hC hO hI => hgo _ _ g H locs hk.2 hW hP hC hO hI)
    by_cases c_22 : v = 22
    · have hk := hK.k22 i M S (zx xs (i + 1).toNat) (zx xs (i + 2).toNat) (zx xs (i + 3).toNat) hi hi2 hR hC hI (zx_r xs _) (zx_r xs _) (zx_r xs _)
      refine z_tin (K := 22) (off := 957) (tgt := 990) CX dL_law_33 ⟨hv1, hv2⟩ c_22 (by decide) (by decide) rfl (by decide) ?_
      exact zl_22 CX hX hbl hbA hi hi2 hL hW hP hC hO hI hd hl  hk.1 (fun g H locs hW hP hC hO hI => hgo _ _ g H locs hk.2 hW hP hC hO hI)
    by_cases c_23 : v = 23
    · have hk := hK.k23 i M S (zx xs (i + 1).toNat) (zx xs (i + 2).toNat) (zx xs (i + 3).toNat) (zx xs (i + 4).toNat) hi hi2 hR hC hI (zx_r xs _) (zx_r xs _) (zx_r xs _) (zx_r xs _)
      refine z_tin (K := 23) (off := 1000) (tgt := 1033) CX dL_law_33 ⟨hv1, hv2⟩ c_23 (by decide) (by decide) rfl (by decide) ?_
      exact zl_23 CX hX hbl hbA hi hi2 hL hW hP hC hO hI hd hl hqH hk.1 (fun g H locs hW hP hC hO hI => hgo _ _ g H locs hk.2 hW hP hC hO hI)
    by_cases c_24 : v = 24
    · have hk := hK.k24 i M S (zx xs (i + 1).toNat) (zx xs (i + 2).toNat) (zx xs (i + 3).toNat) hi hi2 hR hC hI (zx_r xs _) (zx_r xs _) (zx_r xs _)
      refine z_tin (K := 24) (off := 1053) (tgt := 1086) CX dL_law_33 ⟨hv1, hv2⟩ c_24 (by decide) (by decide) rfl (by decide) ?_
      exact zl_24 CX hX hbl hbA hi hi2 hL hW hP hC hO hI hd hl  hk.1 (fun g H locs hW hP hC hO hI => hgo _ _ g H locs hk.2 hW hP hC hO hI)
    by_cases c_25 : v = 25
    · have hk := hK.k25 i M S (zx xs (i + 1).toNat) (zx xs (i + 2).toNat) (zx xs (i + 3).toNat) hi hi2 hR hC hI (zx_r xs _) (zx_r xs _) (zx_r xs _)
      refine z_tin (K := 25) (off := 1096) (tgt := 1129) CX dL_law_33 ⟨hv1, hv2⟩ c_25 (by decide) (by decide) rfl (by decide) ?_
      exact zl_25 CX hX hbl hbA hi hi2 hL hW hP hC hO hI hd hl hqT hqH hk.1 (fun g H locs hW hP hC hO hI => hgo _ _ g H locs hk.2 hW hP hC hO hI)
    by_cases c_26 : v = 26
    · have hk := hK.k26 i M S (zx xs (i + 1).toNat) (zx xs (i + 2).toNat) hi hi2 hR hC hI (zx_r xs _) (zx_r xs _)
      refine z_tin (K := 26) (off := 1139) (tgt := 1172) CX dL_law_33 ⟨hv1, hv2⟩ c_26 (by decide) (by decide) rfl (by decide) ?_
      exact zl_26 CX hX hbl hbA hi hi2 hL hW hP hC hO hI hd hl hqH hk.1 (fun g H locs hW hP hC hO hI => hgo _ _ g H locs hk.2 hW hP hC hO hI)
    by_cases c_27 : v = 27
    · have hk := hK.k27 i M S (zx xs (i + 1).toNat) (zx xs (i + 2).toNat) (zx xs (i + 3).toNat) hi hi2 hR hC hI (zx_r xs _) (zx_r xs _) (zx_r xs _)
      refine z_tin (K := 27) (off := 1172) (tgt := 1205) CX dL_law_33 ⟨hv1, hv2⟩ c_27 (by decide) (by decide) rfl (by decide) ?_
      exact zl_27 CX hX hbl hbA hi hi2 hL hW hP hC hO hI hd hl hqH hk.1 (fun g H locs hW hP hC hO hI => hgo _ _ g H locs hk.2 hW hP hC hO hI)
    by_cases c_28 : v = 28
    · have hk := hK.k28 i M S (zx xs (i + 1).toNat) (zx xs (i + 2).toNat) (zx xs (i + 3).toNat) (zx xs (i + 4).toNat) (zx xs (i + 5).toNat) (zx xs (i + 6).toNat) hi hi2 hR hC hI (zx_r xs _) (zx_r xs _) (zx_r xs _) (zx_r xs _) (zx_r xs _) (zx_r xs _)
      refine z_tin (K := 28) (off := 1215) (tgt := 1248) CX dL_law_33 ⟨hv1, hv2⟩ c_28 (by decide) (by decide) rfl (by decide) ?_
      exact zl_28 CX hX hbl hbA hi hi2 hL hW hP hC hO hI hd hl  hk.1 (fun g H locs hW hP hC hO hI => hgo _ _ g H locs hk.2 hW hP hC hO hI)
    by_cases c_29 : v = 29
    · have hk := hK.k29 i M S (zx xs (i + 1).toNat) (zx xs (i + 2).toNat) (zx xs (i + 3).toNat) (zx xs (i + 4).toNat) (zx xs (i + 5).toNat) (zx xs (i + 6).toNat) (zx xs (i + 7).toNat) hi hi2 hR hC hI (zx_r xs _) (zx_r xs _) (zx_r xs _) (zx_r xs _) (zx_r xs _) (zx_r xs _) (zx_r xs _)
      refine z_tin (K := 29) (off := 1290) (tgt := 1323) CX dL_law_33 ⟨hv1, hv2⟩ c_29 (by decide) (by decide) rfl (by decide) ?_
      exact zl_29 CX hX hbl hbA hi hi2 hL hW hP hC hO hI hd hl  hk.1 (fun g H locs hW hP hC hO hI => hgo _ _ g H locs hk.2 hW hP hC hO hI)
    by_cases c_30 : v = 30
    · have hk := hK.k30 i M S (zx xs (i + 1).toNat) (zx xs (i + 2).toNat) (zx xs (i + 3).toNat) (zx xs (i + 4).toNat) hi hi2 hR hC hI (zx_r xs _) (zx_r xs _) (zx_r xs _) (zx_r xs _)
      refine z_tin (K := 30) (off := 1377) (tgt := 1410) CX dL_law_33 ⟨hv1, hv2⟩ c_30 (by decide) (by decide) rfl (by decide) ?_
      exact zl_30 CX hX hbl hbA hi hi2 hL hW hP hC hO hI hd hl hqH hk.1 (fun g H locs hW hP hC hO hI => hgo _ _ g H locs hk.2 hW hP hC hO hI)
    by_cases c_31 : v = 31
    · have hk := hK.k31 i M S (zx xs (i + 1).toNat) hi hi2 hR hC hI (zx_r xs _)
      refine z_tin (K := 31) (off := 1430) (tgt := 1463) CX dL_law_33 ⟨hv1, hv2⟩ c_31 (by decide) (by decide) rfl (by decide) ?_
      exact zl_31 CX hX hbl hbA hi hi2 hL hW hP hC hO hI hd hl  hk.1 (fun g H locs hW hP hC hO hI => hgo _ _ g H locs hk.2 hW hP hC hO hI)
    by_cases c_32 : v = 32
    · have hk := hK.k32 i M S  hi hi2 hR hC hI 
      refine z_tin (K := 32) (off := 1453) (tgt := 1486) CX dL_law_33 ⟨hv1, hv2⟩ c_32 (by decide) (by decide) rfl (by decide) ?_
      exact zl_32 CX hX hbl hbA hi hi2 hL hW hP hC hO hI hd hl  hk.1 (fun g H locs hW hP hC hO hI => hgo _ _ g H locs hk.2 hW hP hC hO hI)
    by_cases c_33 : v = 33
    · have hk := hK.k33 i M S (zx xs (i + 1).toNat) hi hi2 hR hC hI (zx_r xs _)
      refine z_tin (K := 33) (off := 1466) (tgt := 1499) CX dL_law_33 ⟨hv1, hv2⟩ c_33 (by decide) (by decide) rfl (by decide) ?_
      exact zl_33 CX hX hbl hbA hi hi2 hL hW hP hC hO hI hd hl  hk.1 (fun g H locs hW hP hC hO hI => hgo _ _ g H locs hk.2 hW hP hC hO hI)
    refine z_tout (tgt := 1522) CX dL_law_33 ⟨hv1, hv2⟩ (by omega) (by decide) ?_
    exact hgo M S f H locs (hK.hd i M S hi hi2 hR) hW hP hC hO hI
theorem zws_at {w : Cond} (k j : Nat) (h : ((zLL[k]?).bind (fun l => l[j]?)) = some w) : w ∈ wsL_law := by
  cases hl : zLL[k]? with
  | none => rw [hl] at h; cases h
  | some l => rw [hl] at h; exact List.mem_flatten.mpr ⟨l, List.mem_of_getElem? hl, List.mem_of_getElem? h⟩
set_option maxRecDepth 100000 in
set_option maxHeartbeats 4000000 in
theorem zlaw_start {p : Program} {e : Env} {s : State} {m : MethodId} {below : List Frame} {meth : Method} {c : Code} (l : Launch) {b L : Nat} {xs : Nat → Int32} {Rl : Int → zCt → zS2 → Prop} (hK : zLw Rl L) (hR0 : Rl 0 zM0 zS0) (hL : L ≤ 4096) (C0 : lw_At p s m meth c b L xs) : W p l e room_1 s m #[Value.ref b] below meth c s.heap [] 0 0 (lw_Z below #[Value.ref b] s) (entryFrame m ([Value.ref b] : List Value).toArray 4) := by
  obtain ⟨hx, hb, hr, hml, hown, hts, hX, hbl, hlocks, hgv⟩ := id C0
  obtain ⟨D, cI, cJ, cZ, cP, cS, cM, hKn, hSt⟩ := zlaw_world hts (flat_of_before _ hgv)
  have CX : zC p s m #[.ref b] meth c cL_law 4 ret RL wsL_law := ⟨hx, hb, hml, hown, fun w h => hts w (wsL_law_in w h), hlocks, hr, zOK_of hts⟩
  have hl := lv_entry ([.ref b]) (n := 4) (Nat.le_of_ble_eq_true rfl)
  rw [lg_entry_eq]
  generalize (lg_sl ([.ref b]) ++ List.replicate (4 - (lg_sl ([.ref b])).length) Slot.unset).toArray = ls at hl ⊢
  have hl : lv_has ls 4 [(0, .ref b)] := hl
  have hN : zN D (zT cI cJ cZ cP cS cM) [] (zQ [] s.heap.size) s (fun _ => zJ) s.heap s.heap [] s.heap.size 0 := zN.start ⟨fun k q h => by simp [va_pl] at h, ⟨fun i j p q h => by simp [va_pl] at h, fun k q h => by simp [va_pl] at h⟩, va_S.rf, hKn, fun a h => absurd rfl h, fun q h => Or.inr h, hSt⟩ rfl
  obtain ⟨sz, hsz⟩ : ∃ z, z = s.heap.size := ⟨_, rfl⟩
  refine zn_new (ci := 11) (fs := [.null, .null, .null, .null, .null, .null, .null, .null, .null, .null, .null, .int (zI 0), .int (zI 0)]) CX hN (fun w h => List.mem_flatten.mpr ⟨wsX110, List.mem_of_getElem? (i := 61) rfl, h⟩) tyX11 tyX11_ok (zws_at 0 0 (by rfl)) (zws_at 0 1 (by rfl)) (zws_at 0 2 (by rfl)) rfl (fun j hj => by rcases (show j = 0 ∨ j = 1 ∨ j = 2 ∨ j = 3 ∨ j = 4 ∨ j = 5 ∨ j = 6 ∨ j = 7 ∨ j = 8 ∨ j = 9 ∨ j = 10 ∨ j = 11 ∨ j = 12 by omega) with rfl | rfl | rfl | rfl | rfl | rfl | rfl | rfl | rfl | rfl | rfl | rfl | rfl <;> rfl) (Nat.le_of_ble_eq_true rfl) (Nat.le_of_ble_eq_true rfl) dL_law_0 (fun H hN => ?_)
  have hW := hN.1
  refine lv_dup CX.1 CX.2.1 dL_law_3 rfl ?_
  refine zn_callv hN (va_runI (As := []) (rest := [.ref (s.heap.size + 0)]) CX.fix (c_CM_init l (f := va_up (fun _ => zJ) (s.heap.size + 0) (.inr (11, [.null, .null, .null, .null, .null, .null, .null, .null, .null, .null, .null, .int (zI 0), .int (zI 0)]))) (s.heap.size + 0) (va_up_self _ _ _)) (cwI 0 CX.fix.2.2.2.2 gL_law_X11_init rfl rfl rfl (CX.at (zws_at 0 2 (by rfl))) (CX.at (zws_at 0 6 (by rfl))) (CX.at (zws_at 0 7 (by rfl))) rfl (by decide +kernel) ⟨Nat.le_of_ble_eq_true rfl, Nat.le_of_ble_eq_true rfl⟩) (hN.2 ▸ (z_preS CX hW (As := [.ref (s.heap.size + 0)]))) rfl rfl hl.1 rfl (lv_room (Nat.le_of_ble_eq_true rfl)) dL_law_4 ⟨Nat.le_of_ble_eq_true rfl, Nat.le_of_ble_eq_true rfl⟩) (fun g4 H locs hok hN => ?_)
  obtain ⟨hf4, h4⟩ := hok
  refine lv_astore_n (lv' := [(1, .ref (s.heap.size + 0)), (0, .ref b)]) CX.1 CX.2.1 dL_law_7 rfl hl (by decide) rfl (fun ls hl => ?_)
  refine zn_new (ci := 12) (fs := [.null, .int (zI 0), .null, .int (zI 0), .int (zI 0), .int (zI 0), .int (zI 0), .int (zI 0), .int (zI 0), .int (zI 0), .int (zI 0), .null, .null, .int (zI 0), .null, .int (zI 0), .null, .null, .null, .int (zI 0), .null, .null, .null, .int (zI 0), .int (zI 0), .null, .int (zI 0), .null, .null, .null, .null, .null, .null, .int (zI 0), .null, .int (zI 0), .null]) CX hN (fun w h => List.mem_flatten.mpr ⟨wsX120, List.mem_of_getElem? (i := 62) rfl, h⟩) tyX12 tyX12_ok (zws_at 0 3 (by rfl)) (zws_at 0 4 (by rfl)) (zws_at 0 5 (by rfl)) rfl (fun j hj => by rcases (show j = 0 ∨ j = 1 ∨ j = 2 ∨ j = 3 ∨ j = 4 ∨ j = 5 ∨ j = 6 ∨ j = 7 ∨ j = 8 ∨ j = 9 ∨ j = 10 ∨ j = 11 ∨ j = 12 ∨ j = 13 ∨ j = 14 ∨ j = 15 ∨ j = 16 ∨ j = 17 ∨ j = 18 ∨ j = 19 ∨ j = 20 ∨ j = 21 ∨ j = 22 ∨ j = 23 ∨ j = 24 ∨ j = 25 ∨ j = 26 ∨ j = 27 ∨ j = 28 ∨ j = 29 ∨ j = 30 ∨ j = 31 ∨ j = 32 ∨ j = 33 ∨ j = 34 ∨ j = 35 ∨ j = 36 by omega) with rfl | rfl | rfl | rfl | rfl | rfl | rfl | rfl | rfl | rfl | rfl | rfl | rfl | rfl | rfl | rfl | rfl | rfl | rfl | rfl | rfl | rfl | rfl | rfl | rfl | rfl | rfl | rfl | rfl | rfl | rfl | rfl | rfl | rfl | rfl | rfl | rfl <;> rfl) (Nat.le_of_ble_eq_true rfl) (Nat.le_of_ble_eq_true rfl) dL_law_8 (fun H hN => ?_)
  have hW := hN.1
  refine lv_dup CX.1 CX.2.1 dL_law_11 rfl ?_
  refine zn_callv hN (va_runI (As := []) (rest := [.ref (s.heap.size + (0 + 1 + 680))]) CX.fix (c_CMM_init l (f := va_up g4 (s.heap.size + (0 + 1 + 680)) (.inr (12, [.null, .int (zI 0), .null, .int (zI 0), .int (zI 0), .int (zI 0), .int (zI 0), .int (zI 0), .int (zI 0), .int (zI 0), .int (zI 0), .null, .null, .int (zI 0), .null, .int (zI 0), .null, .null, .null, .int (zI 0), .null, .null, .null, .int (zI 0), .int (zI 0), .null, .int (zI 0), .null, .null, .null, .null, .null, .null, .int (zI 0), .null, .int (zI 0), .null]))) (s.heap.size + (0 + 1 + 680)) (va_up_self _ _ _)) (cwI 0 CX.fix.2.2.2.2 gL_law_X12_init rfl rfl rfl (CX.at (zws_at 0 5 (by rfl))) (CX.at (zws_at 7 6 (by rfl))) (CX.at (zws_at 7 7 (by rfl))) rfl (by decide +kernel) ⟨Nat.le_of_ble_eq_true rfl, Nat.le_of_ble_eq_true rfl⟩) (hN.2 ▸ (z_preS CX hW (As := [.ref (s.heap.size + (0 + 1 + 680))]))) rfl rfl hl.1 rfl (lv_room (Nat.le_of_ble_eq_true rfl)) dL_law_12 ⟨Nat.le_of_ble_eq_true rfl, Nat.le_of_ble_eq_true rfl⟩) (fun g12 H locs hok hN => ?_)
  obtain ⟨hf12, h12⟩ := hok
  refine lv_astore_n (lv' := [(2, .ref (s.heap.size + (0 + 1 + 680))), (1, .ref (s.heap.size + 0)), (0, .ref b)]) CX.1 CX.2.1 dL_law_15 rfl hl (by decide) rfl (fun ls hl => ?_)
  refine lv_iconst (v := zI 0) CX.1 CX.2.1 dL_law_16 rfl ?_
  refine lv_istore_n (lv' := [(3, .int (zI 0)), (2, .ref (s.heap.size + (0 + 1 + 680))), (1, .ref (s.heap.size + 0)), (0, .ref b)]) CX.1 CX.2.1 dL_law_17 rfl hl (by decide) rfl (fun ls hl => ?_)
  refine W.widen (k := 600000) (n := 7302250) (Nat.le_of_ble_eq_true rfl) (Nat.le_of_ble_eq_true rfl) ?_
  exact law_loop hK CX hX hbl rfl hL (Or.inl (by omega)) ((L + 8 - 0 : Int).toNat + 1) 0 zM0 zS0 g12 H locs ls (by omega) (by omega) (by omega) hR0 hN.1 ((zCP0 h4).same (fun q h1 h2 => (hf12 q (by omega)).trans (va_up_ne _ _ (by omega)))) zCI0 (zMO0 h12) zmI0 hl
end ZLb
