section ZGa
theorem zT_congr {c d : Nat → Int} (h : ∀ i j : Nat, i + j ≤ 4 → c (5 * i + j) = d (5 * i + j)) : ztop c = ztop d := by
  rw [ztop_eq, ztop_eq]
  refine zfor_congr _ (fun i n h1 h2 => ?_)
  have h3 : i < 5 := h2
  obtain ⟨a, rfl⟩ : ∃ a : Nat, i = a := ⟨i.toNat, by omega⟩
  unfold ztop_out
  refine zfor_congr _ (fun j t h4 h5 => ?_)
  have h6 : j < 5 - (a : Int) := by omega
  obtain ⟨b, rfl⟩ : ∃ b : Nat, j = b := ⟨j.toNat, by omega⟩
  unfold ztop_in
  rw [show ((a : Int) * 5 + (b : Int)).toNat = 5 * a + b by omega, h a b (by omega)]
/-- of each two POLYNOMIALS there is the couple -/
theorem kUW_ex {K : Type} [Lean.Grind.CommRing K] {p : Int} {φ : Int → K} (h : zKp K p φ) {a b : Nat → Int} (ha : zcan p a) (hb : zcan p b) (ta : 0 ≤ ztop a) (tb : 0 ≤ ztop b) : ∃ u w hh, kUW (zq φ a) (zq φ b) u w hh := by
  obtain ⟨n, hn⟩ : ∃ n : Nat, (n : Int) = ztop a := ⟨(ztop a).toNat, by omega⟩
  obtain ⟨m, hm⟩ : ∃ m : Nat, (m : Int) = ztop b := ⟨(ztop b).toNat, by omega⟩
  obtain ⟨_, x, y, _, hx⟩ := zT_ed h (fun i j _ => ha _) hn
  obtain ⟨_, x2, y2, _, hx2⟩ := zT_ed h (fun i j _ => hb _) hm
  exact kc_T1 h.F _ _ ⟨5, fun i j hij => zq_flt i j (by omega)⟩ ⟨5, fun i j hij => zq_flt i j (by omega)⟩ ⟨x, y, hx⟩ ⟨x2, y2, hx2⟩
end ZGa
