section ZLs
theorem zw_at {w : Cond} (k j : Nat) (h : ((zTT[k]?).bind (fun l => l[j]?)) = some w) : w ∈ lw_tbl := by
  cases hl : zTT[k]? with
  | none => rw [hl] at h; cases h
  | some l => rw [hl] at h; exact zTT_in l (List.mem_of_getElem? hl) w (List.mem_of_getElem? h)
theorem zarrP {args : Array Value} {s : State} {ty : FieldType} (hn : ∀ C, ty ≠ .object C) (h : (Cond.arrayClass ty).before args s = true) : ∃ cA, ArrOfT s cA ty ∧ va_RA s cA ty := by
  obtain ⟨c, k, comp, h1, h2, h3⟩ := Cond.arrayClass_spec h
  refine ⟨c, fun n z => ⟨fun k h => (by cases h), k, h2, comp, h3⟩, ?_⟩
  cases ty with
  | object C => exact absurd rfl (hn C)
  | _ => exact h1
theorem zarrO {args : Array Value} {s : State} {C : String} (h : (Cond.arrayOver (.object C)).before args s = true) : ∃ cA, ArrOfT s cA (.object C) ∧ va_RA s cA (.object C) := by
  obtain ⟨comp, c, k, h1, h2, h3, h4, h5⟩ := Cond.arrayOver_spec h
  exact ⟨c, fun n z => ⟨fun k h => (by cases h), k, h3, comp, h4⟩, k, comp, h3, h4, h1, h5⟩
theorem zarrA {args : Array Value} {s : State} {t : FieldType} (h : (Cond.arrayOver (.array t)).before args s = true) : ∃ cA, ArrOfT s cA (.array t) ∧ va_RA s cA (.array t) := by
  obtain ⟨comp, c, k, h1, h2, h3, h4⟩ := Cond.arrayOver_specA h
  exact ⟨c, fun n z => ⟨fun k h => (by cases h), k, h2, comp, h3⟩, h4⟩
set_option maxRecDepth 20000 in
theorem zNW_in : ∀ w ∈ zNW, w ∈ lw_tbl := fun w h => (zmem2 (LL := zTT) zNW [(1, 30), (1, 69), (1, 101), (1, 170), (1, 192), (1, 197), (1, 216), (1, 236), (2, 27), (2, 69), (2, 71), (3, 64), (3, 209), (3, 213), (3, 219), (4, 75), (4, 78), (4, 96), (4, 145), (4, 146), (4, 195), (4, 196), (5, 19), (5, 61), (1, 74), (1, 75), (1, 87), (1, 88), (1, 90)] (by decide +kernel) w h).elim (fun l q => zTT_in l q.1 w q.2)
theorem zNW_on : ∀ w ∈ zNW, w.onTables = true := fun w h => by
  rcases List.mem_append.mp h with q | q <;> (obtain ⟨x, -, e⟩ := List.mem_map.mp q; rw [← e]; rfl)
set_option maxHeartbeats 4000000 in
theorem zOK_of {s : State} {b : Nat} (hts : ∀ w ∈ lw_tbl, w.before #[Value.ref b] s = true) : zOK s := ⟨fun w h => va_Nw.of (zNW_on w h) (hts w (zNW_in w h)), va_AO.of (A := #[Value.ref b]) (hts _ (zw_at 1 67 (by decide +kernel))), va_AO.of (A := #[Value.ref b]) (hts _ (zw_at 1 155 (by decide +kernel))), (show (Cond.arrayOver (.array .int)).before #[Value.ref b] s = true from (hts _ (zw_at 1 35 (by decide +kernel))))⟩
set_option maxRecDepth 20000 in
set_option maxHeartbeats 4000000 in
theorem zlaw_world {s : State} {b : Nat} (hts : ∀ w ∈ lw_tbl, w.before #[Value.ref b] s = true) (hfl : ∀ c ∈ flatC (Jvm.Cond.and given_1 narrow_1), c.before #[Value.ref b] s = true) : ∃ (D : va_G) (cI cJ cZ cP cS cM : ClassId), va_K D vwCl (zT cI cJ cZ cP cS cM) s ∧ zSt D (zQ [] s.heap.size) s s.heap := by
  have hA : ∀ a : Nat, a < s.heap.size → ¬ (zQ [] s.heap.size) a := fun a h q => by
    rcases q with q | q
    · exact absurd q List.not_mem_nil
    · omega
  obtain ⟨c0, i0, hK0⟩ := u_known (C := RX0) (T := TX0) (N := 10) (n := 10) hts wsX00_in (hts _ (zw_at 2 63 (by decide +kernel)))
  obtain ⟨c1, i1, hK1⟩ := u_known (C := RX1) (T := TX1) (N := 3) (n := 3) hts wsX10_in (hts _ (zw_at 1 149 (by decide +kernel)))
  obtain ⟨c2, i2, hK2⟩ := u_known (C := RX2) (T := TX2) (N := 1) (n := 1) hts wsX20_in (hts _ (zw_at 1 68 (by decide +kernel)))
  obtain ⟨c3, i3, hK3⟩ := u_known (C := RX3) (T := TX3) (N := 13) (n := 13) hts wsX30_in (hts _ (zw_at 1 55 (by decide +kernel)))
  obtain ⟨c4, i4, hK4⟩ := u_known (C := RX4) (T := TX4) (N := 6) (n := 6) hts wsX40_in (hts _ (zw_at 1 235 (by decide +kernel)))
  obtain ⟨c5, i5, hK5⟩ := u_known (C := RX5) (T := TX5) (N := 11) (n := 11) hts wsX50_in (hts _ (zw_at 2 21 (by decide +kernel)))
  obtain ⟨c6, i6, hK6⟩ := u_known (C := RX6) (T := TX6) (N := 5) (n := 5) hts wsX60_in (hts _ (zw_at 1 210 (by decide +kernel)))
  obtain ⟨c7, i7, hK7⟩ := u_known (C := RX7) (T := TX7) (N := 4) (n := 4) hts wsX70_in (hts _ (zw_at 1 61 (by decide +kernel)))
  obtain ⟨c8, i8, hK8⟩ := u_known (C := RX8) (T := TX8) (N := 5) (n := 5) hts wsX80_in (hts _ (zw_at 1 29 (by decide +kernel)))
  obtain ⟨c9, i9, hK9⟩ := u_known (C := RX9) (T := TX9) (N := 3) (n := 3) hts wsX90_in (hts _ (zw_at 1 169 (by decide +kernel)))
  obtain ⟨c10, i10, hK10⟩ := u_known (C := RX10) (T := TX10) (N := 3) (n := 3) hts wsX100_in (hts _ (zw_at 1 191 (by decide +kernel)))
  obtain ⟨c11, i11, hK11⟩ := u_known (C := RX11) (T := TX11) (N := 13) (n := 13) hts wsX110_in (hts _ (zw_at 1 21 (by decide +kernel)))
  obtain ⟨c12, i12, hK12⟩ := u_known (C := RX12) (T := TX12) (N := 37) (n := 37) hts wsX120_in (hts _ (zw_at 5 134 (by decide +kernel)))
  obtain ⟨cI, aI⟩ := zarrP (ty := .int) (fun C h => by cases h) (hts _ (zw_at 1 52 (by decide +kernel)))
  obtain ⟨cJ, aJ⟩ := zarrP (ty := .long) (fun C h => by cases h) (hts _ (zw_at 6 12 (by decide +kernel)))
  obtain ⟨cZ, aZ⟩ := zarrP (ty := .boolean) (fun C h => by cases h) (hts _ (zw_at 1 53 (by decide +kernel)))
  obtain ⟨cP, aP⟩ := zarrO (C := "CurveMeets$Poly") (hts _ (zw_at 1 67 (by decide +kernel)))
  obtain ⟨cS, aS⟩ := zarrO (C := "CurveMeets$Shelf") (hts _ (zw_at 1 155 (by decide +kernel)))
  obtain ⟨cM, aM⟩ := zarrA (t := .int) (hts _ (zw_at 1 35 (by decide +kernel)))
  obtain ⟨tP, eP, hTP⟩ : ∃ t : Nat, (Term.static "CurveMeets$Reader" "PRIMES" "[I").eval #[Value.ref b] s none [] s = some (.ref t) ∧ va_T .int t 11 (fun k => .int (zI (zPR k))) (zQ [] s.heap.size) s s.heap := by
    refine va_Tof (by decide) (hfl _ (List.mem_of_getElem? (i := 10) (by decide +kernel))) (va_eqt (hfl _ (List.mem_of_getElem? (i := 11) (by decide +kernel)))) (fun j hj => ?_) hA
    rcases (show j = 0 ∨ j = 1 ∨ j = 2 ∨ j = 3 ∨ j = 4 ∨ j = 5 ∨ j = 6 ∨ j = 7 ∨ j = 8 ∨ j = 9 ∨ j = 10 by omega) with rfl | rfl | rfl | rfl | rfl | rfl | rfl | rfl | rfl | rfl | rfl
    · rw [show zI (zPR 0) = (2 : Int32) by decide]; exact va_eqt (hfl _ (List.mem_of_getElem? (i := 12) (by decide +kernel)))
    · rw [show zI (zPR 1) = (3 : Int32) by decide]; exact va_eqt (hfl _ (List.mem_of_getElem? (i := 13) (by decide +kernel)))
    · rw [show zI (zPR 2) = (5 : Int32) by decide]; exact va_eqt (hfl _ (List.mem_of_getElem? (i := 14) (by decide +kernel)))
    · rw [show zI (zPR 3) = (7 : Int32) by decide]; exact va_eqt (hfl _ (List.mem_of_getElem? (i := 15) (by decide +kernel)))
    · rw [show zI (zPR 4) = (11 : Int32) by decide]; exact va_eqt (hfl _ (List.mem_of_getElem? (i := 16) (by decide +kernel)))
    · rw [show zI (zPR 5) = (13 : Int32) by decide]; exact va_eqt (hfl _ (List.mem_of_getElem? (i := 17) (by decide +kernel)))
    · rw [show zI (zPR 6) = (17 : Int32) by decide]; exact va_eqt (hfl _ (List.mem_of_getElem? (i := 18) (by decide +kernel)))
    · rw [show zI (zPR 7) = (19 : Int32) by decide]; exact va_eqt (hfl _ (List.mem_of_getElem? (i := 19) (by decide +kernel)))
    · rw [show zI (zPR 8) = (23 : Int32) by decide]; exact va_eqt (hfl _ (List.mem_of_getElem? (i := 20) (by decide +kernel)))
    · rw [show zI (zPR 9) = (29 : Int32) by decide]; exact va_eqt (hfl _ (List.mem_of_getElem? (i := 21) (by decide +kernel)))
    · rw [show zI (zPR 10) = (31 : Int32) by decide]; exact va_eqt (hfl _ (List.mem_of_getElem? (i := 22) (by decide +kernel)))
  obtain ⟨tC, eC, hTC⟩ : ∃ t : Nat, (Term.static "CurveMeets$View" "CHOICES" "[I").eval #[Value.ref b] s none [] s = some (.ref t) ∧ va_T .int t 25 (fun k => .int (zI (zCH k))) (zQ [] s.heap.size) s s.heap := by
    refine va_Tof (by decide) (hfl _ (List.mem_of_getElem? (i := 24) (by decide +kernel))) (va_eqt (hfl _ (List.mem_of_getElem? (i := 25) (by decide +kernel)))) (fun j hj => ?_) hA
    rcases (show j = 0 ∨ j = 1 ∨ j = 2 ∨ j = 3 ∨ j = 4 ∨ j = 5 ∨ j = 6 ∨ j = 7 ∨ j = 8 ∨ j = 9 ∨ j = 10 ∨ j = 11 ∨ j = 12 ∨ j = 13 ∨ j = 14 ∨ j = 15 ∨ j = 16 ∨ j = 17 ∨ j = 18 ∨ j = 19 ∨ j = 20 ∨ j = 21 ∨ j = 22 ∨ j = 23 ∨ j = 24 by omega) with rfl | rfl | rfl | rfl | rfl | rfl | rfl | rfl | rfl | rfl | rfl | rfl | rfl | rfl | rfl | rfl | rfl | rfl | rfl | rfl | rfl | rfl | rfl | rfl | rfl
    · rw [show zI (zCH 0) = (1 : Int32) by decide]; exact va_eqt (hfl _ (List.mem_of_getElem? (i := 26) (by decide +kernel)))
    · rw [show zI (zCH 1) = (0 : Int32) by decide]; exact va_eqt (hfl _ (List.mem_of_getElem? (i := 27) (by decide +kernel)))
    · rw [show zI (zCH 2) = (0 : Int32) by decide]; exact va_eqt (hfl _ (List.mem_of_getElem? (i := 28) (by decide +kernel)))
    · rw [show zI (zCH 3) = (0 : Int32) by decide]; exact va_eqt (hfl _ (List.mem_of_getElem? (i := 29) (by decide +kernel)))
    · rw [show zI (zCH 4) = (0 : Int32) by decide]; exact va_eqt (hfl _ (List.mem_of_getElem? (i := 30) (by decide +kernel)))
    · rw [show zI (zCH 5) = (1 : Int32) by decide]; exact va_eqt (hfl _ (List.mem_of_getElem? (i := 31) (by decide +kernel)))
    · rw [show zI (zCH 6) = (1 : Int32) by decide]; exact va_eqt (hfl _ (List.mem_of_getElem? (i := 32) (by decide +kernel)))
    · rw [show zI (zCH 7) = (0 : Int32) by decide]; exact va_eqt (hfl _ (List.mem_of_getElem? (i := 33) (by decide +kernel)))
    · rw [show zI (zCH 8) = (0 : Int32) by decide]; exact va_eqt (hfl _ (List.mem_of_getElem? (i := 34) (by decide +kernel)))
    · rw [show zI (zCH 9) = (0 : Int32) by decide]; exact va_eqt (hfl _ (List.mem_of_getElem? (i := 35) (by decide +kernel)))
    · rw [show zI (zCH 10) = (1 : Int32) by decide]; exact va_eqt (hfl _ (List.mem_of_getElem? (i := 36) (by decide +kernel)))
    · rw [show zI (zCH 11) = (2 : Int32) by decide]; exact va_eqt (hfl _ (List.mem_of_getElem? (i := 37) (by decide +kernel)))
    · rw [show zI (zCH 12) = (1 : Int32) by decide]; exact va_eqt (hfl _ (List.mem_of_getElem? (i := 38) (by decide +kernel)))
    · rw [show zI (zCH 13) = (0 : Int32) by decide]; exact va_eqt (hfl _ (List.mem_of_getElem? (i := 39) (by decide +kernel)))
    · rw [show zI (zCH 14) = (0 : Int32) by decide]; exact va_eqt (hfl _ (List.mem_of_getElem? (i := 40) (by decide +kernel)))
    · rw [show zI (zCH 15) = (1 : Int32) by decide]; exact va_eqt (hfl _ (List.mem_of_getElem? (i := 41) (by decide +kernel)))
    · rw [show zI (zCH 16) = (3 : Int32) by decide]; exact va_eqt (hfl _ (List.mem_of_getElem? (i := 42) (by decide +kernel)))
    · rw [show zI (zCH 17) = (3 : Int32) by decide]; exact va_eqt (hfl _ (List.mem_of_getElem? (i := 43) (by decide +kernel)))
    · rw [show zI (zCH 18) = (1 : Int32) by decide]; exact va_eqt (hfl _ (List.mem_of_getElem? (i := 44) (by decide +kernel)))
    · rw [show zI (zCH 19) = (0 : Int32) by decide]; exact va_eqt (hfl _ (List.mem_of_getElem? (i := 45) (by decide +kernel)))
    · rw [show zI (zCH 20) = (1 : Int32) by decide]; exact va_eqt (hfl _ (List.mem_of_getElem? (i := 46) (by decide +kernel)))
    · rw [show zI (zCH 21) = (4 : Int32) by decide]; exact va_eqt (hfl _ (List.mem_of_getElem? (i := 47) (by decide +kernel)))
    · rw [show zI (zCH 22) = (6 : Int32) by decide]; exact va_eqt (hfl _ (List.mem_of_getElem? (i := 48) (by decide +kernel)))
    · rw [show zI (zCH 23) = (4 : Int32) by decide]; exact va_eqt (hfl _ (List.mem_of_getElem? (i := 49) (by decide +kernel)))
    · rw [show zI (zCH 24) = (1 : Int32) by decide]; exact va_eqt (hfl _ (List.mem_of_getElem? (i := 50) (by decide +kernel)))
  obtain ⟨adK, adV, hS, hSe⟩ := vk_Sof (args := #[Value.ref b]) (s := s) (N := 4) (tm := fun i => Term.string "CurveMeets$Reader" (zSk.getD i 0)) (len := zSl) (byt := zSb) (A := zQ [] s.heap.size)
    (fun i hi => by
      rcases (show i = 0 ∨ i = 1 ∨ i = 2 ∨ i = 3 by omega) with rfl | rfl | rfl | rfl
      · exact (by decide)
      · exact (by decide)
      · exact (by decide)
      · exact (by decide)) (fun i hi => by
      rcases (show i = 0 ∨ i = 1 ∨ i = 2 ∨ i = 3 by omega) with rfl | rfl | rfl | rfl
      · exact (hfl _ (List.mem_of_getElem? (i := 77) (by decide +kernel)))
      · exact (hfl _ (List.mem_of_getElem? (i := 86) (by decide +kernel)))
      · exact (hfl _ (List.mem_of_getElem? (i := 96) (by decide +kernel)))
      · exact (hfl _ (List.mem_of_getElem? (i := 103) (by decide +kernel))))
    (fun i hi => by
      rcases (show i = 0 ∨ i = 1 ∨ i = 2 ∨ i = 3 by omega) with rfl | rfl | rfl | rfl
      · exact (hfl _ (List.mem_of_getElem? (i := 78) (by decide +kernel)))
      · exact (hfl _ (List.mem_of_getElem? (i := 87) (by decide +kernel)))
      · exact (hfl _ (List.mem_of_getElem? (i := 97) (by decide +kernel)))
      · exact (hfl _ (List.mem_of_getElem? (i := 104) (by decide +kernel))))
    (fun i hi => by
      rcases (show i = 0 ∨ i = 1 ∨ i = 2 ∨ i = 3 by omega) with rfl | rfl | rfl | rfl
      · exact (hfl _ (List.mem_of_getElem? (i := 79) (by decide +kernel)))
      · exact (hfl _ (List.mem_of_getElem? (i := 88) (by decide +kernel)))
      · exact (hfl _ (List.mem_of_getElem? (i := 98) (by decide +kernel)))
      · exact (hfl _ (List.mem_of_getElem? (i := 105) (by decide +kernel))))
    (fun i hi => by
      rcases (show i = 0 ∨ i = 1 ∨ i = 2 ∨ i = 3 by omega) with rfl | rfl | rfl | rfl
      · exact (hfl _ (List.mem_of_getElem? (i := 80) (by decide +kernel)))
      · exact (hfl _ (List.mem_of_getElem? (i := 89) (by decide +kernel)))
      · exact (hfl _ (List.mem_of_getElem? (i := 99) (by decide +kernel)))
      · exact (hfl _ (List.mem_of_getElem? (i := 106) (by decide +kernel))))
    (fun i hi j hj => by
      rcases (show i = 0 ∨ i = 1 ∨ i = 2 ∨ i = 3 by omega) with rfl | rfl | rfl | rfl
      · have hj : j < 5 := hj
        exact (by
        rcases (show j = 0 ∨ j = 1 ∨ j = 2 ∨ j = 3 ∨ j = 4 by omega) with rfl | rfl | rfl | rfl | rfl
        · exact (hfl _ (List.mem_of_getElem? (i := 81) (by decide +kernel)))
        · exact (hfl _ (List.mem_of_getElem? (i := 82) (by decide +kernel)))
        · exact (hfl _ (List.mem_of_getElem? (i := 83) (by decide +kernel)))
        · exact (hfl _ (List.mem_of_getElem? (i := 84) (by decide +kernel)))
        · exact (hfl _ (List.mem_of_getElem? (i := 85) (by decide +kernel))))
      · have hj : j < 5 := hj
        exact (by
        rcases (show j = 0 ∨ j = 1 ∨ j = 2 ∨ j = 3 ∨ j = 4 by omega) with rfl | rfl | rfl | rfl | rfl
        · exact (hfl _ (List.mem_of_getElem? (i := 90) (by decide +kernel)))
        · exact (hfl _ (List.mem_of_getElem? (i := 91) (by decide +kernel)))
        · exact (hfl _ (List.mem_of_getElem? (i := 92) (by decide +kernel)))
        · exact (hfl _ (List.mem_of_getElem? (i := 93) (by decide +kernel)))
        · exact (hfl _ (List.mem_of_getElem? (i := 94) (by decide +kernel))))
      · have hj : j < 1 := hj
        exact (by
        rcases (show j = 0 by omega) with rfl
        · exact (hfl _ (List.mem_of_getElem? (i := 100) (by decide +kernel))))
      · have hj : j < 1 := hj
        exact (by
        rcases (show j = 0 by omega) with rfl
        · exact (hfl _ (List.mem_of_getElem? (i := 107) (by decide +kernel)))))
    (fun i j hi hj hij => by
      rcases (show i = 0 ∨ i = 1 ∨ i = 2 ∨ i = 3 by omega) with rfl | rfl | rfl | rfl
      · rcases (show j = 0 ∨ j = 1 ∨ j = 2 ∨ j = 3 by omega) with rfl | rfl | rfl | rfl
        · exact absurd rfl hij
        · exact Or.inl (hfl _ (List.mem_of_getElem? (i := 95) (by decide +kernel)))
        · exact Or.inl (hfl _ (List.mem_of_getElem? (i := 101) (by decide +kernel)))
        · exact Or.inl (hfl _ (List.mem_of_getElem? (i := 108) (by decide +kernel)))
      · rcases (show j = 0 ∨ j = 1 ∨ j = 2 ∨ j = 3 by omega) with rfl | rfl | rfl | rfl
        · exact Or.inr (hfl _ (List.mem_of_getElem? (i := 95) (by decide +kernel)))
        · exact absurd rfl hij
        · exact Or.inl (hfl _ (List.mem_of_getElem? (i := 102) (by decide +kernel)))
        · exact Or.inl (hfl _ (List.mem_of_getElem? (i := 109) (by decide +kernel)))
      · rcases (show j = 0 ∨ j = 1 ∨ j = 2 ∨ j = 3 by omega) with rfl | rfl | rfl | rfl
        · exact Or.inr (hfl _ (List.mem_of_getElem? (i := 101) (by decide +kernel)))
        · exact Or.inr (hfl _ (List.mem_of_getElem? (i := 102) (by decide +kernel)))
        · exact absurd rfl hij
        · exact Or.inl (hfl _ (List.mem_of_getElem? (i := 110) (by decide +kernel)))
      · rcases (show j = 0 ∨ j = 1 ∨ j = 2 ∨ j = 3 by omega) with rfl | rfl | rfl | rfl
        · exact Or.inr (hfl _ (List.mem_of_getElem? (i := 108) (by decide +kernel)))
        · exact Or.inr (hfl _ (List.mem_of_getElem? (i := 109) (by decide +kernel)))
        · exact Or.inr (hfl _ (List.mem_of_getElem? (i := 110) (by decide +kernel)))
        · exact absurd rfl hij) hA
  refine ⟨(fun k => if k = 0 then c0 else if k = 1 then c1 else if k = 2 then c2 else if k = 3 then c3 else if k = 4 then c4 else if k = 5 then c5 else if k = 6 then c6 else if k = 7 then c7 else if k = 8 then c8 else if k = 9 then c9 else if k = 10 then c10 else if k = 11 then c11 else c12, fun k => if k = 96 then (fun i => if i = 0 then tP else tC) else if k = 97 then adV else if k = 98 then adK else if k = 0 then i0 else if k = 1 then i1 else if k = 2 then i2 else if k = 3 then i3 else if k = 4 then i4 else if k = 5 then i5 else if k = 6 then i6 else if k = 7 then i7 else if k = 8 then i8 else if k = 9 then i9 else if k = 10 then i10 else if k = 11 then i11 else i12), cI, cJ, cZ, cP, cS, cM, ⟨fun k q hq => ?_, fun k q hq => ?_⟩, ?_⟩
  · match k, hq with
    | 0, hq => cases hq; exact hK0
    | 1, hq => cases hq; exact hK1
    | 2, hq => cases hq; exact hK2
    | 3, hq => cases hq; exact hK3
    | 4, hq => cases hq; exact hK4
    | 5, hq => cases hq; exact hK5
    | 6, hq => cases hq; exact hK6
    | 7, hq => cases hq; exact hK7
    | 8, hq => cases hq; exact hK8
    | 9, hq => cases hq; exact hK9
    | 10, hq => cases hq; exact hK10
    | 11, hq => cases hq; exact hK11
    | 12, hq => cases hq; exact hK12
    | k + 13, hq => simp [vwCl] at hq
  · match k, hq with
    | 0, hq => cases hq; exact aI
    | 1, hq => cases hq; exact aJ
    | 2, hq => cases hq; exact aZ
    | 3, hq => cases hq; exact aP
    | 4, hq => cases hq; exact aS
    | 5, hq => cases hq; exact aM
    | k + 6, hq => simp at hq
  · refine ⟨⟨va_Zof (hts _ (zw_at 3 20 (by decide +kernel))) (hts _ (zw_at 1 3 (by decide +kernel))) eP hA, hTP⟩, ⟨va_Zof (hts _ (zw_at 3 208 (by decide +kernel))) (hts _ (zw_at 1 8 (by decide +kernel))) eC hA, hTC⟩, va_Zof (hts _ (zw_at 2 198 (by decide +kernel))) (hts _ (zw_at 1 14 (by decide +kernel))) (va_eqt (hfl _ (List.mem_of_getElem? (i := 4) (by decide +kernel)))) hA, va_Zqof (hts _ (zw_at 2 214 (by decide +kernel))) (hts _ (zw_at 1 16 (by decide +kernel))) (hfl _ (List.mem_of_getElem? (i := 5) (by decide +kernel))) hA, hS, fun i hi => ?_⟩
    have hq := hSe i hi
    rcases (show i = 0 ∨ i = 1 ∨ i = 2 ∨ i = 3 by omega) with rfl | rfl | rfl | rfl
    · exact vk_R.of (hts _ (zw_at 2 180 (by decide +kernel))) hq
    · exact vk_R.of (hts _ (zw_at 3 33 (by decide +kernel))) hq
    · exact vk_R.of (hts _ (zw_at 3 38 (by decide +kernel))) hq
    · exact vk_R.of (hts _ (zw_at 3 39 (by decide +kernel))) hq
end ZLs
