section ZLs
theorem zw_at {w : Cond} (k j : Nat) (h : ((zTT[k]?).bind (fun l => l[j]?)) = some w) : w ∈ zTB := by
  cases hl : zTT[k]? with
  | none => rw [hl] at h; cases h
  | some l => rw [hl] at h; exact zTT_in l (List.mem_of_getElem? hl) w (List.mem_of_getElem? h)
theorem zarrP {args : Array Value} {s : State} {ty : FieldType} (hn : ∀ C, ty ≠ .object C) (h : (Cond.arrayClass ty).before args s = true) : ∃ cA, ArrOfT s cA ty ∧ va_RA s cA ty := by
  obtain ⟨c, k, comp, h1, h2, h3⟩ := Cond.arrayClass_spec h
  refine ⟨c, fun n z => ⟨fun k h => (by cases h), k, h2, comp, h3⟩, ?_⟩
  cases ty with
  | object C => exact absurd rfl (hn C)
  | _ => exact h1
theorem zarrO {args : Array Value} {s : State} {C : String} (h : (Cond.arrayOver (.object C)).before args s = true) : ∃ cA, ArrOfT s cA (.object C) ∧ va_RA s cA (.object C) := by
  obtain ⟨comp, c, k, h1, h2, h3, h4, h5⟩ := Cond.arrayOver_spec h
  exact ⟨c, fun n z => ⟨fun k h => (by cases h), k, h3, comp, h4⟩, k, comp, h3, h4, h1, h5⟩
theorem zarrA {args : Array Value} {s : State} {t : FieldType} (h : (Cond.arrayOver (.array t)).before args s = true) : ∃ cA, ArrOfT s cA (.array t) ∧ va_RA s cA (.array t) := by
  obtain ⟨comp, c, k, h1, h2, h3, h4⟩ := Cond.arrayOver_specA h
  exact ⟨c, fun n z => ⟨fun k h => (by cases h), k, h2, comp, h3⟩, h4⟩
theorem zI_bits (x : Int32) : zI ((x.toBitVec.toNat : Nat) : Int) = x := by
  apply Int32.toBitVec_inj.mp
  show BitVec.ofInt 32 ((x.toBitVec.toNat : Nat) : Int) = x.toBitVec
  rw [BitVec.ofInt_natCast, BitVec.ofNat_toNat, BitVec.setWidth_eq]
/-- a private method of the class above, seen in the class below -/
theorem z_sel_sub {C : String} {x y0 y : MethodName} {s : State} {args : Array Value} (n : Nat) (h2 : (Cond.selects C x y0).before args s = true) (e0 : y0.cls = y.cls) (hy : y.cls ≠ "java/lang/invoke/MethodHandle" ∧ y.cls ≠ "java/lang/invoke/VarHandle")
    (hins : (Cond.instantiable C n).before args s = true) (hpriv : (Cond.privateMethod y).before args s = true) (hinst : (Cond.instanceMethod y).before args s = true) :
    (Cond.selects C y y).before args s = true := by
  obtain ⟨c, k, hc, hk, -, hniab, -, -⟩ := Cond.instantiable_spec hins
  have hni : k.isInterface = false := (Bool.or_eq_false_iff.mp hniab).1
  obtain ⟨mk, methM, hnamed, hmethM, -, -⟩ := Cond.instanceMethod_spec hinst
  have hfound : s.methodFound? y.cls y.name y.desc = some mk := State.methodFound?_of_named hnamed hy
  have hsel : selectMethod {} s.vm c mk = .method mk := selectMethod_private hmethM (Cond.privateMethod_at hpriv mk methM hnamed hmethM)
  simp only [Cond.before, Cond.holds, Cond.value, hc, hfound, hnamed, hsel, hk]
  obtain ⟨c2, r2, m2, -, -, hm2, -, k2, hk2, hi2⟩ := Cond.selects_spec h2
  have e2 : m2.cls = mk.cls := Option.some.inj ((findClass_of_methodNamed hm2).symm.trans (by rw [e0]; exact findClass_of_methodNamed hnamed))
  simp
  rw [← e2, hk2]
  simp [hi2]
theorem zl_at {w : Cond} (k j : Nat) (h : (((zTT.drop 1)[k - 1]?).bind (fun l => l[j]?)) = some w) : w ∈ lw_tbl := by
  have e : lw_tbl = (zTT.drop 1).flatten := by
    unfold lw_tbl tables_1 zTT
    simp only [List.drop_succ_cons, List.drop_zero, List.flatten_cons, List.flatten_nil, List.append_nil]
  cases hl : (zTT.drop 1)[k - 1]? with
  | none => rw [hl] at h; cases h
  | some l =>
    rw [hl] at h
    rw [e]
    exact List.mem_flatten.mpr ⟨l, List.mem_of_getElem? hl, List.mem_of_getElem? h⟩
set_option maxRecDepth 20000 in
theorem zTB_ok {s : State} {b : Nat} (hts : ∀ w ∈ lw_tbl, w.before #[Value.ref b] s = true) : ∀ w ∈ zTB, w.before #[Value.ref b] s = true := fun w hw => by
  rcases List.mem_append.mp hw with h | h
  · have key : ∀ w ∈ z6, w.before #[Value.ref b] s = true := List.forall_mem_cons.mpr ⟨z_sel_sub 4 (hts _ (zl_at (w := .selects "java/lang/StringBuilder" ⟨"java/lang/AbstractStringBuilder", "isLatin1", "()Z"⟩ ⟨"java/lang/AbstractStringBuilder", "isLatin1", "()Z"⟩) 5 193 (by decide +kernel))) rfl (by decide) (hts _ (zl_at 5 125 (by decide +kernel))) (hts _ (zl_at 5 159 (by decide +kernel))) (hts _ (zl_at 5 160 (by decide +kernel))), List.forall_mem_cons.mpr ⟨z_sel_sub 4 (hts _ (zl_at (w := .selects "java/lang/StringBuilder" ⟨"java/lang/AbstractStringBuilder", "isLatin1", "()Z"⟩ ⟨"java/lang/AbstractStringBuilder", "isLatin1", "()Z"⟩) 5 193 (by decide +kernel))) rfl (by decide) (hts _ (zl_at 5 125 (by decide +kernel))) (hts _ (zl_at 5 163 (by decide +kernel))) (hts _ (zl_at 5 164 (by decide +kernel))), List.forall_mem_cons.mpr ⟨z_sel_sub 4 (hts _ (zl_at (w := .selects "java/lang/StringBuilder" ⟨"java/lang/AbstractStringBuilder", "isLatin1", "()Z"⟩ ⟨"java/lang/AbstractStringBuilder", "isLatin1", "()Z"⟩) 5 193 (by decide +kernel))) rfl (by decide) (hts _ (zl_at 5 125 (by decide +kernel))) (hts _ (zl_at 5 220 (by decide +kernel))) (hts _ (zl_at 5 221 (by decide +kernel))), List.forall_mem_cons.mpr ⟨z_sel_sub 4 (hts _ (zl_at (w := .selects "java/lang/StringBuilder" ⟨"java/lang/AbstractStringBuilder", "isLatin1", "()Z"⟩ ⟨"java/lang/AbstractStringBuilder", "isLatin1", "()Z"⟩) 5 193 (by decide +kernel))) rfl (by decide) (hts _ (zl_at 5 125 (by decide +kernel))) (hts _ (zl_at 5 216 (by decide +kernel))) (hts _ (zl_at 5 217 (by decide +kernel))), List.forall_mem_cons.mpr ⟨z_sel_sub 4 (hts _ (zl_at (w := .selects "java/lang/StringBuilder" ⟨"java/lang/AbstractStringBuilder", "isLatin1", "()Z"⟩ ⟨"java/lang/AbstractStringBuilder", "isLatin1", "()Z"⟩) 5 193 (by decide +kernel))) rfl (by decide) (hts _ (zl_at 5 125 (by decide +kernel))) (hts _ (zl_at 5 167 (by decide +kernel))) (hts _ (zl_at 5 168 (by decide +kernel))), List.forall_mem_cons.mpr ⟨z_sel_sub 4 (hts _ (zl_at (w := .selects "java/lang/StringBuilder" ⟨"java/lang/AbstractStringBuilder", "isLatin1", "()Z"⟩ ⟨"java/lang/AbstractStringBuilder", "isLatin1", "()Z"⟩) 5 193 (by decide +kernel))) rfl (by decide) (hts _ (zl_at 5 125 (by decide +kernel))) (hts _ (zl_at 5 212 (by decide +kernel))) (hts _ (zl_at 5 213 (by decide +kernel))), fun _ h => absurd h List.not_mem_nil⟩⟩⟩⟩⟩⟩
    exact key w h
  · exact hts w h
set_option maxRecDepth 20000 in
theorem zNW_in : ∀ w ∈ zNW, w ∈ zTB := fun w h => (zmem2 (LL := zTT) zNW [(2, 34), (2, 73), (2, 103), (2, 172), (2, 191), (2, 196), (2, 215), (2, 235), (3, 26), (3, 68), (3, 70), (4, 42), (4, 229), (4, 233), (4, 201), (4, 174), (4, 177), (4, 200), (5, 33), (5, 34), (5, 70), (5, 71), (2, 78), (2, 79), (2, 90), (2, 92)] (by decide +kernel) w h).elim (fun l q => zTT_in l q.1 w q.2)
theorem zNW_on : ∀ w ∈ zNW, w.onTables = true := fun w h => by
  rcases List.mem_append.mp h with q | q <;> (obtain ⟨x, -, e⟩ := List.mem_map.mp q; rw [← e]; rfl)
set_option maxHeartbeats 4000000 in
theorem zOK_of {s : State} {b : Nat} (hts : ∀ w ∈ zTB, w.before #[Value.ref b] s = true) : zOK s := ⟨fun w h => va_Nw.of (zNW_on w h) (hts w (zNW_in w h)), va_AO.of (A := #[Value.ref b]) (hts _ (zw_at 2 71 (by decide +kernel))), va_AO.of (A := #[Value.ref b]) (hts _ (zw_at 2 157 (by decide +kernel))), (show (Cond.arrayOver (.array .int)).before #[Value.ref b] s = true from (hts _ (zw_at 2 39 (by decide +kernel)))), va_Nw.of rfl (hts _ (zw_at 5 186 (by decide +kernel)))⟩
set_option maxRecDepth 20000 in
set_option maxHeartbeats 8000000 in
theorem zlaw_world {s : State} {b Ls : Nat} {xs : Nat → Int32} (hts : ∀ w ∈ zTB, w.before #[Value.ref b] s = true) (hfl : ∀ c ∈ flatC (Jvm.Cond.and given_1 narrow_1), c.before #[Value.ref b] s = true) (hX : va_X b Ls xs s s.heap) (hbl : b < s.heap.size) : ∃ (D : va_G) (cI cJ cZ cP cS cM : ClassId), (va_K D vwCl (zT cI cJ cZ cP cS cM) s ∧ zSt D (zQ [] s.heap.size) s s.heap) ∧ D.2 96 3 = b ∧ D.2 95 0 = Ls := by
  have hA : ∀ a : Nat, a < s.heap.size → ¬ (zQ [] s.heap.size) a := fun a h q => by
    rcases q with q | q
    · exact absurd q List.not_mem_nil
    · omega
  have hTS : va_T .int b Ls (fun k => .int (zI ((((xs k).toBitVec.toNat : Nat)) : Int))) (zQ [] s.heap.size) s s.heap := by
    obtain ⟨scr, h1, h2, h3, h4, h5⟩ := hX
    refine ⟨scr, h1, h2, h3, by omega, by rw [h4], fun j hj => ?_, hA b hbl⟩
    show scr.slots[j]? = some (.int (zI ((((xs j).toBitVec.toNat : Nat)) : Int)))
    rw [zI_bits]
    exact h5 j hj
  obtain ⟨c0, i0, hK0⟩ := u_known (C := RX0) (T := TX0) (N := 10) (n := 10) hts wsX00_in (hts _ (zw_at 3 62 (by decide +kernel)))
  obtain ⟨c1, i1, hK1⟩ := u_known (C := RX1) (T := TX1) (N := 3) (n := 3) hts wsX10_in (hts _ (zw_at 2 151 (by decide +kernel)))
  obtain ⟨c2, i2, hK2⟩ := u_known (C := RX2) (T := TX2) (N := 1) (n := 1) hts wsX20_in (hts _ (zw_at 2 72 (by decide +kernel)))
  obtain ⟨c3, i3, hK3⟩ := u_known (C := RX3) (T := TX3) (N := 13) (n := 13) hts wsX30_in (hts _ (zw_at 2 59 (by decide +kernel)))
  obtain ⟨c4, i4, hK4⟩ := u_known (C := RX4) (T := TX4) (N := 6) (n := 6) hts wsX40_in (hts _ (zw_at 2 234 (by decide +kernel)))
  obtain ⟨c5, i5, hK5⟩ := u_known (C := RX5) (T := TX5) (N := 11) (n := 11) hts wsX50_in (hts _ (zw_at 3 20 (by decide +kernel)))
  obtain ⟨c6, i6, hK6⟩ := u_known (C := RX6) (T := TX6) (N := 5) (n := 5) hts wsX60_in (hts _ (zw_at 2 209 (by decide +kernel)))
  obtain ⟨c7, i7, hK7⟩ := u_known (C := RX7) (T := TX7) (N := 4) (n := 4) hts wsX70_in (hts _ (zw_at 2 65 (by decide +kernel)))
  obtain ⟨c8, i8, hK8⟩ := u_known (C := RX8) (T := TX8) (N := 5) (n := 5) hts wsX80_in (hts _ (zw_at 2 33 (by decide +kernel)))
  obtain ⟨c9, i9, hK9⟩ := u_known (C := RX9) (T := TX9) (N := 3) (n := 3) hts wsX90_in (hts _ (zw_at 2 171 (by decide +kernel)))
  obtain ⟨c10, i10, hK10⟩ := u_known (C := RX10) (T := TX10) (N := 3) (n := 3) hts wsX100_in (hts _ (zw_at 2 190 (by decide +kernel)))
  obtain ⟨c11, i11, hK11⟩ := u_known (C := RX11) (T := TX11) (N := 13) (n := 13) hts wsX110_in (hts _ (zw_at 2 25 (by decide +kernel)))
  obtain ⟨c12, i12, hK12⟩ := u_known (C := RJ0) (T := TJ0) (N := 4) (n := 4) hts wsJ00_in (hts _ (zw_at 6 50 (by decide +kernel)))
  obtain ⟨c13, i13, hK13⟩ := u_known (C := RJ4) (T := TJ4) (N := 4) (n := 4) hts wsJ40_in (hts _ (zw_at 5 125 (by decide +kernel)))
  obtain ⟨cI, aI⟩ := zarrP (ty := .int) (fun C h => by cases h) (hts _ (zw_at 2 56 (by decide +kernel)))
  obtain ⟨cJ, aJ⟩ := zarrP (ty := .byte) (fun C h => by cases h) (hts _ (zw_at 4 105 (by decide +kernel)))
  obtain ⟨cZ, aZ⟩ := zarrP (ty := .boolean) (fun C h => by cases h) (hts _ (zw_at 2 57 (by decide +kernel)))
  obtain ⟨cP, aP⟩ := zarrO (C := "CurveMeets$Poly") (hts _ (zw_at 2 71 (by decide +kernel)))
  obtain ⟨cS, aS⟩ := zarrO (C := "CurveMeets$Shelf") (hts _ (zw_at 2 157 (by decide +kernel)))
  obtain ⟨cM, aM⟩ := zarrA (t := .int) (hts _ (zw_at 2 39 (by decide +kernel)))
  obtain ⟨tP, eP, hTP⟩ : ∃ t : Nat, (Term.static "CurveMeets$Reader" "PRIMES" "[I").eval #[Value.ref b] s none [] s = some (.ref t) ∧ va_T .int t 11 (fun k => .int (zI (zPR k))) (zQ [] s.heap.size) s s.heap := by
    refine va_Tof (by decide) (hfl _ (List.mem_of_getElem? (i := 10) (by decide +kernel))) (va_eqt (hfl _ (List.mem_of_getElem? (i := 11) (by decide +kernel)))) (fun j hj => ?_) hA
    rcases (show j = 0 ∨ j = 1 ∨ j = 2 ∨ j = 3 ∨ j = 4 ∨ j = 5 ∨ j = 6 ∨ j = 7 ∨ j = 8 ∨ j = 9 ∨ j = 10 by omega) with rfl | rfl | rfl | rfl | rfl | rfl | rfl | rfl | rfl | rfl | rfl
    · rw [show zI (zPR 0) = (2 : Int32) by decide]; exact va_eqt (hfl _ (List.mem_of_getElem? (i := 12) (by decide +kernel)))
    · rw [show zI (zPR 1) = (3 : Int32) by decide]; exact va_eqt (hfl _ (List.mem_of_getElem? (i := 13) (by decide +kernel)))
    · rw [show zI (zPR 2) = (5 : Int32) by decide]; exact va_eqt (hfl _ (List.mem_of_getElem? (i := 14) (by decide +kernel)))
    · rw [show zI (zPR 3) = (7 : Int32) by decide]; exact va_eqt (hfl _ (List.mem_of_getElem? (i := 15) (by decide +kernel)))
    · rw [show zI (zPR 4) = (11 : Int32) by decide]; exact va_eqt (hfl _ (List.mem_of_getElem? (i := 16) (by decide +kernel)))
    · rw [show zI (zPR 5) = (13 : Int32) by decide]; exact va_eqt (hfl _ (List.mem_of_getElem? (i := 17) (by decide +kernel)))
    · rw [show zI (zPR 6) = (17 : Int32) by decide]; exact va_eqt (hfl _ (List.mem_of_getElem? (i := 18) (by decide +kernel)))
    · rw [show zI (zPR 7) = (19 : Int32) by decide]; exact va_eqt (hfl _ (List.mem_of_getElem? (i := 19) (by decide +kernel)))
    · rw [show zI (zPR 8) = (23 : Int32) by decide]; exact va_eqt (hfl _ (List.mem_of_getElem? (i := 20) (by decide +kernel)))
    · rw [show zI (zPR 9) = (29 : Int32) by decide]; exact va_eqt (hfl _ (List.mem_of_getElem? (i := 21) (by decide +kernel)))
    · rw [show zI (zPR 10) = (31 : Int32) by decide]; exact va_eqt (hfl _ (List.mem_of_getElem? (i := 22) (by decide +kernel)))
  obtain ⟨tC, eC, hTC⟩ : ∃ t : Nat, (Term.static "CurveMeets$View" "CHOICES" "[I").eval #[Value.ref b] s none [] s = some (.ref t) ∧ va_T .int t 25 (fun k => .int (zI (zCH k))) (zQ [] s.heap.size) s s.heap := by
    refine va_Tof (by decide) (hfl _ (List.mem_of_getElem? (i := 24) (by decide +kernel))) (va_eqt (hfl _ (List.mem_of_getElem? (i := 25) (by decide +kernel)))) (fun j hj => ?_) hA
    rcases (show j = 0 ∨ j = 1 ∨ j = 2 ∨ j = 3 ∨ j = 4 ∨ j = 5 ∨ j = 6 ∨ j = 7 ∨ j = 8 ∨ j = 9 ∨ j = 10 ∨ j = 11 ∨ j = 12 ∨ j = 13 ∨ j = 14 ∨ j = 15 ∨ j = 16 ∨ j = 17 ∨ j = 18 ∨ j = 19 ∨ j = 20 ∨ j = 21 ∨ j = 22 ∨ j = 23 ∨ j = 24 by omega) with rfl | rfl | rfl | rfl | rfl | rfl | rfl | rfl | rfl | rfl | rfl | rfl | rfl | rfl | rfl | rfl | rfl | rfl | rfl | rfl | rfl | rfl | rfl | rfl | rfl
    · rw [show zI (zCH 0) = (1 : Int32) by decide]; exact va_eqt (hfl _ (List.mem_of_getElem? (i := 26) (by decide +kernel)))
    · rw [show zI (zCH 1) = (0 : Int32) by decide]; exact va_eqt (hfl _ (List.mem_of_getElem? (i := 27) (by decide +kernel)))
    · rw [show zI (zCH 2) = (0 : Int32) by decide]; exact va_eqt (hfl _ (List.mem_of_getElem? (i := 28) (by decide +kernel)))
    · rw [show zI (zCH 3) = (0 : Int32) by decide]; exact va_eqt (hfl _ (List.mem_of_getElem? (i := 29) (by decide +kernel)))
    · rw [show zI (zCH 4) = (0 : Int32) by decide]; exact va_eqt (hfl _ (List.mem_of_getElem? (i := 30) (by decide +kernel)))
    · rw [show zI (zCH 5) = (1 : Int32) by decide]; exact va_eqt (hfl _ (List.mem_of_getElem? (i := 31) (by decide +kernel)))
    · rw [show zI (zCH 6) = (1 : Int32) by decide]; exact va_eqt (hfl _ (List.mem_of_getElem? (i := 32) (by decide +kernel)))
    · rw [show zI (zCH 7) = (0 : Int32) by decide]; exact va_eqt (hfl _ (List.mem_of_getElem? (i := 33) (by decide +kernel)))
    · rw [show zI (zCH 8) = (0 : Int32) by decide]; exact va_eqt (hfl _ (List.mem_of_getElem? (i := 34) (by decide +kernel)))
    · rw [show zI (zCH 9) = (0 : Int32) by decide]; exact va_eqt (hfl _ (List.mem_of_getElem? (i := 35) (by decide +kernel)))
    · rw [show zI (zCH 10) = (1 : Int32) by decide]; exact va_eqt (hfl _ (List.mem_of_getElem? (i := 36) (by decide +kernel)))
    · rw [show zI (zCH 11) = (2 : Int32) by decide]; exact va_eqt (hfl _ (List.mem_of_getElem? (i := 37) (by decide +kernel)))
    · rw [show zI (zCH 12) = (1 : Int32) by decide]; exact va_eqt (hfl _ (List.mem_of_getElem? (i := 38) (by decide +kernel)))
    · rw [show zI (zCH 13) = (0 : Int32) by decide]; exact va_eqt (hfl _ (List.mem_of_getElem? (i := 39) (by decide +kernel)))
    · rw [show zI (zCH 14) = (0 : Int32) by decide]; exact va_eqt (hfl _ (List.mem_of_getElem? (i := 40) (by decide +kernel)))
    · rw [show zI (zCH 15) = (1 : Int32) by decide]; exact va_eqt (hfl _ (List.mem_of_getElem? (i := 41) (by decide +kernel)))
    · rw [show zI (zCH 16) = (3 : Int32) by decide]; exact va_eqt (hfl _ (List.mem_of_getElem? (i := 42) (by decide +kernel)))
    · rw [show zI (zCH 17) = (3 : Int32) by decide]; exact va_eqt (hfl _ (List.mem_of_getElem? (i := 43) (by decide +kernel)))
    · rw [show zI (zCH 18) = (1 : Int32) by decide]; exact va_eqt (hfl _ (List.mem_of_getElem? (i := 44) (by decide +kernel)))
    · rw [show zI (zCH 19) = (0 : Int32) by decide]; exact va_eqt (hfl _ (List.mem_of_getElem? (i := 45) (by decide +kernel)))
    · rw [show zI (zCH 20) = (1 : Int32) by decide]; exact va_eqt (hfl _ (List.mem_of_getElem? (i := 46) (by decide +kernel)))
    · rw [show zI (zCH 21) = (4 : Int32) by decide]; exact va_eqt (hfl _ (List.mem_of_getElem? (i := 47) (by decide +kernel)))
    · rw [show zI (zCH 22) = (6 : Int32) by decide]; exact va_eqt (hfl _ (List.mem_of_getElem? (i := 48) (by decide +kernel)))
    · rw [show zI (zCH 23) = (4 : Int32) by decide]; exact va_eqt (hfl _ (List.mem_of_getElem? (i := 49) (by decide +kernel)))
    · rw [show zI (zCH 24) = (1 : Int32) by decide]; exact va_eqt (hfl _ (List.mem_of_getElem? (i := 50) (by decide +kernel)))
  obtain ⟨tQ, eQ, hTQ⟩ : ∃ t : Nat, (Term.static "CurveMeetsLaw" "PRIMES" "[I").eval #[Value.ref b] s none [] s = some (.ref t) ∧ va_T .int t 6 (fun k => .int (zI (zPR k))) (zQ [] s.heap.size) s s.heap := by
    refine va_Tof (by decide) (hfl _ (List.mem_of_getElem? (i := 258) (by decide +kernel))) (va_eqt (hfl _ (List.mem_of_getElem? (i := 259) (by decide +kernel)))) (fun j hj => ?_) hA
    rcases (show j = 0 ∨ j = 1 ∨ j = 2 ∨ j = 3 ∨ j = 4 ∨ j = 5 by omega) with rfl | rfl | rfl | rfl | rfl | rfl
    · rw [show zI (zPR 0) = (2 : Int32) by decide]; exact va_eqt (hfl _ (List.mem_of_getElem? (i := 260) (by decide +kernel)))
    · rw [show zI (zPR 1) = (3 : Int32) by decide]; exact va_eqt (hfl _ (List.mem_of_getElem? (i := 261) (by decide +kernel)))
    · rw [show zI (zPR 2) = (5 : Int32) by decide]; exact va_eqt (hfl _ (List.mem_of_getElem? (i := 262) (by decide +kernel)))
    · rw [show zI (zPR 3) = (7 : Int32) by decide]; exact va_eqt (hfl _ (List.mem_of_getElem? (i := 263) (by decide +kernel)))
    · rw [show zI (zPR 4) = (11 : Int32) by decide]; exact va_eqt (hfl _ (List.mem_of_getElem? (i := 264) (by decide +kernel)))
    · rw [show zI (zPR 5) = (13 : Int32) by decide]; exact va_eqt (hfl _ (List.mem_of_getElem? (i := 265) (by decide +kernel)))
  obtain ⟨tG, eG, hTG⟩ : ∃ t : Nat, (Term.static "java/lang/Integer" "DigitOnes" "[B").eval #[Value.ref b] s none [] s = some (.ref t) ∧ va_T .byte t 100 (fun k => .int (zI (48 + ((k % 10 : Nat) : Int)))) (zQ [] s.heap.size) s s.heap := by
    refine va_Tof (by decide) (hfl _ (List.mem_of_getElem? (i := 52) (by decide +kernel))) (va_eqt (hfl _ (List.mem_of_getElem? (i := 53) (by decide +kernel)))) (fun j hj => ?_) hA
    rcases (show j = 0 ∨ j = 1 ∨ j = 2 ∨ j = 3 ∨ j = 4 ∨ j = 5 ∨ j = 6 ∨ j = 7 ∨ j = 8 ∨ j = 9 ∨ j = 10 ∨ j = 11 ∨ j = 12 ∨ j = 13 ∨ j = 14 ∨ j = 15 ∨ j = 16 ∨ j = 17 ∨ j = 18 ∨ j = 19 ∨ j = 20 ∨ j = 21 ∨ j = 22 ∨ j = 23 ∨ j = 24 ∨ j = 25 ∨ j = 26 ∨ j = 27 ∨ j = 28 ∨ j = 29 ∨ j = 30 ∨ j = 31 ∨ j = 32 ∨ j = 33 ∨ j = 34 ∨ j = 35 ∨ j = 36 ∨ j = 37 ∨ j = 38 ∨ j = 39 ∨ j = 40 ∨ j = 41 ∨ j = 42 ∨ j = 43 ∨ j = 44 ∨ j = 45 ∨ j = 46 ∨ j = 47 ∨ j = 48 ∨ j = 49 ∨ j = 50 ∨ j = 51 ∨ j = 52 ∨ j = 53 ∨ j = 54 ∨ j = 55 ∨ j = 56 ∨ j = 57 ∨ j = 58 ∨ j = 59 ∨ j = 60 ∨ j = 61 ∨ j = 62 ∨ j = 63 ∨ j = 64 ∨ j = 65 ∨ j = 66 ∨ j = 67 ∨ j = 68 ∨ j = 69 ∨ j = 70 ∨ j = 71 ∨ j = 72 ∨ j = 73 ∨ j = 74 ∨ j = 75 ∨ j = 76 ∨ j = 77 ∨ j = 78 ∨ j = 79 ∨ j = 80 ∨ j = 81 ∨ j = 82 ∨ j = 83 ∨ j = 84 ∨ j = 85 ∨ j = 86 ∨ j = 87 ∨ j = 88 ∨ j = 89 ∨ j = 90 ∨ j = 91 ∨ j = 92 ∨ j = 93 ∨ j = 94 ∨ j = 95 ∨ j = 96 ∨ j = 97 ∨ j = 98 ∨ j = 99 by omega) with rfl | rfl | rfl | rfl | rfl | rfl | rfl | rfl | rfl | rfl | rfl | rfl | rfl | rfl | rfl | rfl | rfl | rfl | rfl | rfl | rfl | rfl | rfl | rfl | rfl | rfl | rfl | rfl | rfl | rfl | rfl | rfl | rfl | rfl | rfl | rfl | rfl | rfl | rfl | rfl | rfl | rfl | rfl | rfl | rfl | rfl | rfl | rfl | rfl | rfl | rfl | rfl | rfl | rfl | rfl | rfl | rfl | rfl | rfl | rfl | rfl | rfl | rfl | rfl | rfl | rfl | rfl | rfl | rfl | rfl | rfl | rfl | rfl | rfl | rfl | rfl | rfl | rfl | rfl | rfl | rfl | rfl | rfl | rfl | rfl | rfl | rfl | rfl | rfl | rfl | rfl | rfl | rfl | rfl | rfl | rfl | rfl | rfl | rfl | rfl
    · rw [show zI (48 + ((0 % 10 : Nat) : Int)) = (48 : Int32) by decide]; exact va_eqt (hfl _ (List.mem_of_getElem? (i := 54) (by decide +kernel)))
    · rw [show zI (48 + ((1 % 10 : Nat) : Int)) = (49 : Int32) by decide]; exact va_eqt (hfl _ (List.mem_of_getElem? (i := 55) (by decide +kernel)))
    · rw [show zI (48 + ((2 % 10 : Nat) : Int)) = (50 : Int32) by decide]; exact va_eqt (hfl _ (List.mem_of_getElem? (i := 56) (by decide +kernel)))
    · rw [show zI (48 + ((3 % 10 : Nat) : Int)) = (51 : Int32) by decide]; exact va_eqt (hfl _ (List.mem_of_getElem? (i := 57) (by decide +kernel)))
    · rw [show zI (48 + ((4 % 10 : Nat) : Int)) = (52 : Int32) by decide]; exact va_eqt (hfl _ (List.mem_of_getElem? (i := 58) (by decide +kernel)))
    · rw [show zI (48 + ((5 % 10 : Nat) : Int)) = (53 : Int32) by decide]; exact va_eqt (hfl _ (List.mem_of_getElem? (i := 59) (by decide +kernel)))
    · rw [show zI (48 + ((6 % 10 : Nat) : Int)) = (54 : Int32) by decide]; exact va_eqt (hfl _ (List.mem_of_getElem? (i := 60) (by decide +kernel)))
    · rw [show zI (48 + ((7 % 10 : Nat) : Int)) = (55 : Int32) by decide]; exact va_eqt (hfl _ (List.mem_of_getElem? (i := 61) (by decide +kernel)))
    · rw [show zI (48 + ((8 % 10 : Nat) : Int)) = (56 : Int32) by decide]; exact va_eqt (hfl _ (List.mem_of_getElem? (i := 62) (by decide +kernel)))
    · rw [show zI (48 + ((9 % 10 : Nat) : Int)) = (57 : Int32) by decide]; exact va_eqt (hfl _ (List.mem_of_getElem? (i := 63) (by decide +kernel)))
    · rw [show zI (48 + ((10 % 10 : Nat) : Int)) = (48 : Int32) by decide]; exact va_eqt (hfl _ (List.mem_of_getElem? (i := 64) (by decide +kernel)))
    · rw [show zI (48 + ((11 % 10 : Nat) : Int)) = (49 : Int32) by decide]; exact va_eqt (hfl _ (List.mem_of_getElem? (i := 65) (by decide +kernel)))
    · rw [show zI (48 + ((12 % 10 : Nat) : Int)) = (50 : Int32) by decide]; exact va_eqt (hfl _ (List.mem_of_getElem? (i := 66) (by decide +kernel)))
    · rw [show zI (48 + ((13 % 10 : Nat) : Int)) = (51 : Int32) by decide]; exact va_eqt (hfl _ (List.mem_of_getElem? (i := 67) (by decide +kernel)))
    · rw [show zI (48 + ((14 % 10 : Nat) : Int)) = (52 : Int32) by decide]; exact va_eqt (hfl _ (List.mem_of_getElem? (i := 68) (by decide +kernel)))
    · rw [show zI (48 + ((15 % 10 : Nat) : Int)) = (53 : Int32) by decide]; exact va_eqt (hfl _ (List.mem_of_getElem? (i := 69) (by decide +kernel)))
    · rw [show zI (48 + ((16 % 10 : Nat) : Int)) = (54 : Int32) by decide]; exact va_eqt (hfl _ (List.mem_of_getElem? (i := 70) (by decide +kernel)))
    · rw [show zI (48 + ((17 % 10 : Nat) : Int)) = (55 : Int32) by decide]; exact va_eqt (hfl _ (List.mem_of_getElem? (i := 71) (by decide +kernel)))
    · rw [show zI (48 + ((18 % 10 : Nat) : Int)) = (56 : Int32) by decide]; exact va_eqt (hfl _ (List.mem_of_getElem? (i := 72) (by decide +kernel)))
    · rw [show zI (48 + ((19 % 10 : Nat) : Int)) = (57 : Int32) by decide]; exact va_eqt (hfl _ (List.mem_of_getElem? (i := 73) (by decide +kernel)))
    · rw [show zI (48 + ((20 % 10 : Nat) : Int)) = (48 : Int32) by decide]; exact va_eqt (hfl _ (List.mem_of_getElem? (i := 74) (by decide +kernel)))
    · rw [show zI (48 + ((21 % 10 : Nat) : Int)) = (49 : Int32) by decide]; exact va_eqt (hfl _ (List.mem_of_getElem? (i := 75) (by decide +kernel)))
    · rw [show zI (48 + ((22 % 10 : Nat) : Int)) = (50 : Int32) by decide]; exact va_eqt (hfl _ (List.mem_of_getElem? (i := 76) (by decide +kernel)))
    · rw [show zI (48 + ((23 % 10 : Nat) : Int)) = (51 : Int32) by decide]; exact va_eqt (hfl _ (List.mem_of_getElem? (i := 77) (by decide +kernel)))
    · rw [show zI (48 + ((24 % 10 : Nat) : Int)) = (52 : Int32) by decide]; exact va_eqt (hfl _ (List.mem_of_getElem? (i := 78) (by decide +kernel)))
    · rw [show zI (48 + ((25 % 10 : Nat) : Int)) = (53 : Int32) by decide]; exact va_eqt (hfl _ (List.mem_of_getElem? (i := 79) (by decide +kernel)))
    · rw [show zI (48 + ((26 % 10 : Nat) : Int)) = (54 : Int32) by decide]; exact va_eqt (hfl _ (List.mem_of_getElem? (i := 80) (by decide +kernel)))
    · rw [show zI (48 + ((27 % 10 : Nat) : Int)) = (55 : Int32) by decide]; exact va_eqt (hfl _ (List.mem_of_getElem? (i := 81) (by decide +kernel)))
    · rw [show zI (48 + ((28 % 10 : Nat) : Int)) = (56 : Int32) by decide]; exact va_eqt (hfl _ (List.mem_of_getElem? (i := 82) (by decide +kernel)))
    · rw [show zI (48 + ((29 % 10 : Nat) : Int)) = (57 : Int32) by decide]; exact va_eqt (hfl _ (List.mem_of_getElem? (i := 83) (by decide +kernel)))
    · rw [show zI (48 + ((30 % 10 : Nat) : Int)) = (48 : Int32) by decide]; exact va_eqt (hfl _ (List.mem_of_getElem? (i := 84) (by decide +kernel)))
    · rw [show zI (48 + ((31 % 10 : Nat) : Int)) = (49 : Int32) by decide]; exact va_eqt (hfl _ (List.mem_of_getElem? (i := 85) (by decide +kernel)))
    · rw [show zI (48 + ((32 % 10 : Nat) : Int)) = (50 : Int32) by decide]; exact va_eqt (hfl _ (List.mem_of_getElem? (i := 86) (by decide +kernel)))
    · rw [show zI (48 + ((33 % 10 : Nat) : Int)) = (51 : Int32) by decide]; exact va_eqt (hfl _ (List.mem_of_getElem? (i := 87) (by decide +kernel)))
    · rw [show zI (48 + ((34 % 10 : Nat) : Int)) = (52 : Int32) by decide]; exact va_eqt (hfl _ (List.mem_of_getElem? (i := 88) (by decide +kernel)))
    · rw [show zI (48 + ((35 % 10 : Nat) : Int)) = (53 : Int32) by decide]; exact va_eqt (hfl _ (List.mem_of_getElem? (i := 89) (by decide +kernel)))
    · rw [show zI (48 + ((36 % 10 : Nat) : Int)) = (54 : Int32) by decide]; exact va_eqt (hfl _ (List.mem_of_getElem? (i := 90) (by decide +kernel)))
    · rw [show zI (48 + ((37 % 10 : Nat) : Int)) = (55 : Int32) by decide]; exact va_eqt (hfl _ (List.mem_of_getElem? (i := 91) (by decide +kernel)))
    · rw [show zI (48 + ((38 % 10 : Nat) : Int)) = (56 : Int32) by decide]; exact va_eqt (hfl _ (List.mem_of_getElem? (i := 92) (by decide +kernel)))
    · rw [show zI (48 + ((39 % 10 : Nat) : Int)) = (57 : Int32) by decide]; exact va_eqt (hfl _ (List.mem_of_getElem? (i := 93) (by decide +kernel)))
    · rw [show zI (48 + ((40 % 10 : Nat) : Int)) = (48 : Int32) by decide]; exact va_eqt (hfl _ (List.mem_of_getElem? (i := 94) (by decide +kernel)))
    · rw [show zI (48 + ((41 % 10 : Nat) : Int)) = (49 : Int32) by decide]; exact va_eqt (hfl _ (List.mem_of_getElem? (i := 95) (by decide +kernel)))
    · rw [show zI (48 + ((42 % 10 : Nat) : Int)) = (50 : Int32) by decide]; exact va_eqt (hfl _ (List.mem_of_getElem? (i := 96) (by decide +kernel)))
    · rw [show zI (48 + ((43 % 10 : Nat) : Int)) = (51 : Int32) by decide]; exact va_eqt (hfl _ (List.mem_of_getElem? (i := 97) (by decide +kernel)))
    · rw [show zI (48 + ((44 % 10 : Nat) : Int)) = (52 : Int32) by decide]; exact va_eqt (hfl _ (List.mem_of_getElem? (i := 98) (by decide +kernel)))
    · rw [show zI (48 + ((45 % 10 : Nat) : Int)) = (53 : Int32) by decide]; exact va_eqt (hfl _ (List.mem_of_getElem? (i := 99) (by decide +kernel)))
    · rw [show zI (48 + ((46 % 10 : Nat) : Int)) = (54 : Int32) by decide]; exact va_eqt (hfl _ (List.mem_of_getElem? (i := 100) (by decide +kernel)))
    · rw [show zI (48 + ((47 % 10 : Nat) : Int)) = (55 : Int32) by decide]; exact va_eqt (hfl _ (List.mem_of_getElem? (i := 101) (by decide +kernel)))
    · rw [show zI (48 + ((48 % 10 : Nat) : Int)) = (56 : Int32) by decide]; exact va_eqt (hfl _ (List.mem_of_getElem? (i := 102) (by decide +kernel)))
    · rw [show zI (48 + ((49 % 10 : Nat) : Int)) = (57 : Int32) by decide]; exact va_eqt (hfl _ (List.mem_of_getElem? (i := 103) (by decide +kernel)))
    · rw [show zI (48 + ((50 % 10 : Nat) : Int)) = (48 : Int32) by decide]; exact va_eqt (hfl _ (List.mem_of_getElem? (i := 104) (by decide +kernel)))
    · rw [show zI (48 + ((51 % 10 : Nat) : Int)) = (49 : Int32) by decide]; exact va_eqt (hfl _ (List.mem_of_getElem? (i := 105) (by decide +kernel)))
    · rw [show zI (48 + ((52 % 10 : Nat) : Int)) = (50 : Int32) by decide]; exact va_eqt (hfl _ (List.mem_of_getElem? (i := 106) (by decide +kernel)))
    · rw [show zI (48 + ((53 % 10 : Nat) : Int)) = (51 : Int32) by decide]; exact va_eqt (hfl _ (List.mem_of_getElem? (i := 107) (by decide +kernel)))
    · rw [show zI (48 + ((54 % 10 : Nat) : Int)) = (52 : Int32) by decide]; exact va_eqt (hfl _ (List.mem_of_getElem? (i := 108) (by decide +kernel)))
    · rw [show zI (48 + ((55 % 10 : Nat) : Int)) = (53 : Int32) by decide]; exact va_eqt (hfl _ (List.mem_of_getElem? (i := 109) (by decide +kernel)))
    · rw [show zI (48 + ((56 % 10 : Nat) : Int)) = (54 : Int32) by decide]; exact va_eqt (hfl _ (List.mem_of_getElem? (i := 110) (by decide +kernel)))
    · rw [show zI (48 + ((57 % 10 : Nat) : Int)) = (55 : Int32) by decide]; exact va_eqt (hfl _ (List.mem_of_getElem? (i := 111) (by decide +kernel)))
    · rw [show zI (48 + ((58 % 10 : Nat) : Int)) = (56 : Int32) by decide]; exact va_eqt (hfl _ (List.mem_of_getElem? (i := 112) (by decide +kernel)))
    · rw [show zI (48 + ((59 % 10 : Nat) : Int)) = (57 : Int32) by decide]; exact va_eqt (hfl _ (List.mem_of_getElem? (i := 113) (by decide +kernel)))
    · rw [show zI (48 + ((60 % 10 : Nat) : Int)) = (48 : Int32) by decide]; exact va_eqt (hfl _ (List.mem_of_getElem? (i := 114) (by decide +kernel)))
    · rw [show zI (48 + ((61 % 10 : Nat) : Int)) = (49 : Int32) by decide]; exact va_eqt (hfl _ (List.mem_of_getElem? (i := 115) (by decide +kernel)))
    · rw [show zI (48 + ((62 % 10 : Nat) : Int)) = (50 : Int32) by decide]; exact va_eqt (hfl _ (List.mem_of_getElem? (i := 116) (by decide +kernel)))
    · rw [show zI (48 + ((63 % 10 : Nat) : Int)) = (51 : Int32) by decide]; exact va_eqt (hfl _ (List.mem_of_getElem? (i := 117) (by decide +kernel)))
    · rw [show zI (48 + ((64 % 10 : Nat) : Int)) = (52 : Int32) by decide]; exact va_eqt (hfl _ (List.mem_of_getElem? (i := 118) (by decide +kernel)))
    · rw [show zI (48 + ((65 % 10 : Nat) : Int)) = (53 : Int32) by decide]; exact va_eqt (hfl _ (List.mem_of_getElem? (i := 119) (by decide +kernel)))
    · rw [show zI (48 + ((66 % 10 : Nat) : Int)) = (54 : Int32) by decide]; exact va_eqt (hfl _ (List.mem_of_getElem? (i := 120) (by decide +kernel)))
    · rw [show zI (48 + ((67 % 10 : Nat) : Int)) = (55 : Int32) by decide]; exact va_eqt (hfl _ (List.mem_of_getElem? (i := 121) (by decide +kernel)))
    · rw [show zI (48 + ((68 % 10 : Nat) : Int)) = (56 : Int32) by decide]; exact va_eqt (hfl _ (List.mem_of_getElem? (i := 122) (by decide +kernel)))
    · rw [show zI (48 + ((69 % 10 : Nat) : Int)) = (57 : Int32) by decide]; exact va_eqt (hfl _ (List.mem_of_getElem? (i := 123) (by decide +kernel)))
    · rw [show zI (48 + ((70 % 10 : Nat) : Int)) = (48 : Int32) by decide]; exact va_eqt (hfl _ (List.mem_of_getElem? (i := 124) (by decide +kernel)))
    · rw [show zI (48 + ((71 % 10 : Nat) : Int)) = (49 : Int32) by decide]; exact va_eqt (hfl _ (List.mem_of_getElem? (i := 125) (by decide +kernel)))
    · rw [show zI (48 + ((72 % 10 : Nat) : Int)) = (50 : Int32) by decide]; exact va_eqt (hfl _ (List.mem_of_getElem? (i := 126) (by decide +kernel)))
    · rw [show zI (48 + ((73 % 10 : Nat) : Int)) = (51 : Int32) by decide]; exact va_eqt (hfl _ (List.mem_of_getElem? (i := 127) (by decide +kernel)))
    · rw [show zI (48 + ((74 % 10 : Nat) : Int)) = (52 : Int32) by decide]; exact va_eqt (hfl _ (List.mem_of_getElem? (i := 128) (by decide +kernel)))
    · rw [show zI (48 + ((75 % 10 : Nat) : Int)) = (53 : Int32) by decide]; exact va_eqt (hfl _ (List.mem_of_getElem? (i := 129) (by decide +kernel)))
    · rw [show zI (48 + ((76 % 10 : Nat) : Int)) = (54 : Int32) by decide]; exact va_eqt (hfl _ (List.mem_of_getElem? (i := 130) (by decide +kernel)))
    · rw [show zI (48 + ((77 % 10 : Nat) : Int)) = (55 : Int32) by decide]; exact va_eqt (hfl _ (List.mem_of_getElem? (i := 131) (by decide +kernel)))
    · rw [show zI (48 + ((78 % 10 : Nat) : Int)) = (56 : Int32) by decide]; exact va_eqt (hfl _ (List.mem_of_getElem? (i := 132) (by decide +kernel)))
    · rw [show zI (48 + ((79 % 10 : Nat) : Int)) = (57 : Int32) by decide]; exact va_eqt (hfl _ (List.mem_of_getElem? (i := 133) (by decide +kernel)))
    · rw [show zI (48 + ((80 % 10 : Nat) : Int)) = (48 : Int32) by decide]; exact va_eqt (hfl _ (List.mem_of_getElem? (i := 134) (by decide +kernel)))
    · rw [show zI (48 + ((81 % 10 : Nat) : Int)) = (49 : Int32) by decide]; exact va_eqt (hfl _ (List.mem_of_getElem? (i := 135) (by decide +kernel)))
    · rw [show zI (48 + ((82 % 10 : Nat) : Int)) = (50 : Int32) by decide]; exact va_eqt (hfl _ (List.mem_of_getElem? (i := 136) (by decide +kernel)))
    · rw [show zI (48 + ((83 % 10 : Nat) : Int)) = (51 : Int32) by decide]; exact va_eqt (hfl _ (List.mem_of_getElem? (i := 137) (by decide +kernel)))
    · rw [show zI (48 + ((84 % 10 : Nat) : Int)) = (52 : Int32) by decide]; exact va_eqt (hfl _ (List.mem_of_getElem? (i := 138) (by decide +kernel)))
    · rw [show zI (48 + ((85 % 10 : Nat) : Int)) = (53 : Int32) by decide]; exact va_eqt (hfl _ (List.mem_of_getElem? (i := 139) (by decide +kernel)))
    · rw [show zI (48 + ((86 % 10 : Nat) : Int)) = (54 : Int32) by decide]; exact va_eqt (hfl _ (List.mem_of_getElem? (i := 140) (by decide +kernel)))
    · rw [show zI (48 + ((87 % 10 : Nat) : Int)) = (55 : Int32) by decide]; exact va_eqt (hfl _ (List.mem_of_getElem? (i := 141) (by decide +kernel)))
    · rw [show zI (48 + ((88 % 10 : Nat) : Int)) = (56 : Int32) by decide]; exact va_eqt (hfl _ (List.mem_of_getElem? (i := 142) (by decide +kernel)))
    · rw [show zI (48 + ((89 % 10 : Nat) : Int)) = (57 : Int32) by decide]; exact va_eqt (hfl _ (List.mem_of_getElem? (i := 143) (by decide +kernel)))
    · rw [show zI (48 + ((90 % 10 : Nat) : Int)) = (48 : Int32) by decide]; exact va_eqt (hfl _ (List.mem_of_getElem? (i := 144) (by decide +kernel)))
    · rw [show zI (48 + ((91 % 10 : Nat) : Int)) = (49 : Int32) by decide]; exact va_eqt (hfl _ (List.mem_of_getElem? (i := 145) (by decide +kernel)))
    · rw [show zI (48 + ((92 % 10 : Nat) : Int)) = (50 : Int32) by decide]; exact va_eqt (hfl _ (List.mem_of_getElem? (i := 146) (by decide +kernel)))
    · rw [show zI (48 + ((93 % 10 : Nat) : Int)) = (51 : Int32) by decide]; exact va_eqt (hfl _ (List.mem_of_getElem? (i := 147) (by decide +kernel)))
    · rw [show zI (48 + ((94 % 10 : Nat) : Int)) = (52 : Int32) by decide]; exact va_eqt (hfl _ (List.mem_of_getElem? (i := 148) (by decide +kernel)))
    · rw [show zI (48 + ((95 % 10 : Nat) : Int)) = (53 : Int32) by decide]; exact va_eqt (hfl _ (List.mem_of_getElem? (i := 149) (by decide +kernel)))
    · rw [show zI (48 + ((96 % 10 : Nat) : Int)) = (54 : Int32) by decide]; exact va_eqt (hfl _ (List.mem_of_getElem? (i := 150) (by decide +kernel)))
    · rw [show zI (48 + ((97 % 10 : Nat) : Int)) = (55 : Int32) by decide]; exact va_eqt (hfl _ (List.mem_of_getElem? (i := 151) (by decide +kernel)))
    · rw [show zI (48 + ((98 % 10 : Nat) : Int)) = (56 : Int32) by decide]; exact va_eqt (hfl _ (List.mem_of_getElem? (i := 152) (by decide +kernel)))
    · rw [show zI (48 + ((99 % 10 : Nat) : Int)) = (57 : Int32) by decide]; exact va_eqt (hfl _ (List.mem_of_getElem? (i := 153) (by decide +kernel)))
  obtain ⟨adK, adV, hS, hSe⟩ := vk_Sof (args := #[Value.ref b]) (s := s) (N := 12) (tm := fun i => if i < 4 then Term.string "CurveMeets$Reader" (zSk.getD i 0) else Term.string "CurveMeetsLaw" (zSk.getD i 0)) (len := zSl) (byt := zSb) (A := zQ [] s.heap.size)
    (fun i hi => by
      rcases (show i = 0 ∨ i = 1 ∨ i = 2 ∨ i = 3 ∨ i = 4 ∨ i = 5 ∨ i = 6 ∨ i = 7 ∨ i = 8 ∨ i = 9 ∨ i = 10 ∨ i = 11 by omega) with rfl | rfl | rfl | rfl | rfl | rfl | rfl | rfl | rfl | rfl | rfl | rfl
      · exact (by decide)
      · exact (by decide)
      · exact (by decide)
      · exact (by decide)
      · exact (by decide)
      · exact (by decide)
      · exact (by decide)
      · exact (by decide)
      · exact (by decide)
      · exact (by decide)
      · exact (by decide)
      · exact (by decide)) (fun i hi => by
      rcases (show i = 0 ∨ i = 1 ∨ i = 2 ∨ i = 3 ∨ i = 4 ∨ i = 5 ∨ i = 6 ∨ i = 7 ∨ i = 8 ∨ i = 9 ∨ i = 10 ∨ i = 11 by omega) with rfl | rfl | rfl | rfl | rfl | rfl | rfl | rfl | rfl | rfl | rfl | rfl
      · exact (hfl _ (List.mem_of_getElem? (i := 292) (by decide +kernel)))
      · exact (hfl _ (List.mem_of_getElem? (i := 301) (by decide +kernel)))
      · exact (hfl _ (List.mem_of_getElem? (i := 311) (by decide +kernel)))
      · exact (hfl _ (List.mem_of_getElem? (i := 318) (by decide +kernel)))
      · exact (hfl _ (List.mem_of_getElem? (i := 326) (by decide +kernel)))
      · exact (hfl _ (List.mem_of_getElem? (i := 335) (by decide +kernel)))
      · exact (hfl _ (List.mem_of_getElem? (i := 345) (by decide +kernel)))
      · exact (hfl _ (List.mem_of_getElem? (i := 358) (by decide +kernel)))
      · exact (hfl _ (List.mem_of_getElem? (i := 372) (by decide +kernel)))
      · exact (hfl _ (List.mem_of_getElem? (i := 390) (by decide +kernel)))
      · exact (hfl _ (List.mem_of_getElem? (i := 414) (by decide +kernel)))
      · exact (hfl _ (List.mem_of_getElem? (i := 439) (by decide +kernel))))
    (fun i hi => by
      rcases (show i = 0 ∨ i = 1 ∨ i = 2 ∨ i = 3 ∨ i = 4 ∨ i = 5 ∨ i = 6 ∨ i = 7 ∨ i = 8 ∨ i = 9 ∨ i = 10 ∨ i = 11 by omega) with rfl | rfl | rfl | rfl | rfl | rfl | rfl | rfl | rfl | rfl | rfl | rfl
      · exact (hfl _ (List.mem_of_getElem? (i := 293) (by decide +kernel)))
      · exact (hfl _ (List.mem_of_getElem? (i := 302) (by decide +kernel)))
      · exact (hfl _ (List.mem_of_getElem? (i := 312) (by decide +kernel)))
      · exact (hfl _ (List.mem_of_getElem? (i := 319) (by decide +kernel)))
      · exact (hfl _ (List.mem_of_getElem? (i := 327) (by decide +kernel)))
      · exact (hfl _ (List.mem_of_getElem? (i := 336) (by decide +kernel)))
      · exact (hfl _ (List.mem_of_getElem? (i := 346) (by decide +kernel)))
      · exact (hfl _ (List.mem_of_getElem? (i := 359) (by decide +kernel)))
      · exact (hfl _ (List.mem_of_getElem? (i := 373) (by decide +kernel)))
      · exact (hfl _ (List.mem_of_getElem? (i := 391) (by decide +kernel)))
      · exact (hfl _ (List.mem_of_getElem? (i := 415) (by decide +kernel)))
      · exact (hfl _ (List.mem_of_getElem? (i := 440) (by decide +kernel))))
    (fun i hi => by
      rcases (show i = 0 ∨ i = 1 ∨ i = 2 ∨ i = 3 ∨ i = 4 ∨ i = 5 ∨ i = 6 ∨ i = 7 ∨ i = 8 ∨ i = 9 ∨ i = 10 ∨ i = 11 by omega) with rfl | rfl | rfl | rfl | rfl | rfl | rfl | rfl | rfl | rfl | rfl | rfl
      · exact (hfl _ (List.mem_of_getElem? (i := 294) (by decide +kernel)))
      · exact (hfl _ (List.mem_of_getElem? (i := 303) (by decide +kernel)))
      · exact (hfl _ (List.mem_of_getElem? (i := 313) (by decide +kernel)))
      · exact (hfl _ (List.mem_of_getElem? (i := 320) (by decide +kernel)))
      · exact (hfl _ (List.mem_of_getElem? (i := 328) (by decide +kernel)))
      · exact (hfl _ (List.mem_of_getElem? (i := 337) (by decide +kernel)))
      · exact (hfl _ (List.mem_of_getElem? (i := 347) (by decide +kernel)))
      · exact (hfl _ (List.mem_of_getElem? (i := 360) (by decide +kernel)))
      · exact (hfl _ (List.mem_of_getElem? (i := 374) (by decide +kernel)))
      · exact (hfl _ (List.mem_of_getElem? (i := 392) (by decide +kernel)))
      · exact (hfl _ (List.mem_of_getElem? (i := 416) (by decide +kernel)))
      · exact (hfl _ (List.mem_of_getElem? (i := 441) (by decide +kernel))))
    (fun i hi => by
      rcases (show i = 0 ∨ i = 1 ∨ i = 2 ∨ i = 3 ∨ i = 4 ∨ i = 5 ∨ i = 6 ∨ i = 7 ∨ i = 8 ∨ i = 9 ∨ i = 10 ∨ i = 11 by omega) with rfl | rfl | rfl | rfl | rfl | rfl | rfl | rfl | rfl | rfl | rfl | rfl
      · exact (hfl _ (List.mem_of_getElem? (i := 295) (by decide +kernel)))
      · exact (hfl _ (List.mem_of_getElem? (i := 304) (by decide +kernel)))
      · exact (hfl _ (List.mem_of_getElem? (i := 314) (by decide +kernel)))
      · exact (hfl _ (List.mem_of_getElem? (i := 321) (by decide +kernel)))
      · exact (hfl _ (List.mem_of_getElem? (i := 329) (by decide +kernel)))
      · exact (hfl _ (List.mem_of_getElem? (i := 338) (by decide +kernel)))
      · exact (hfl _ (List.mem_of_getElem? (i := 348) (by decide +kernel)))
      · exact (hfl _ (List.mem_of_getElem? (i := 361) (by decide +kernel)))
      · exact (hfl _ (List.mem_of_getElem? (i := 375) (by decide +kernel)))
      · exact (hfl _ (List.mem_of_getElem? (i := 393) (by decide +kernel)))
      · exact (hfl _ (List.mem_of_getElem? (i := 417) (by decide +kernel)))
      · exact (hfl _ (List.mem_of_getElem? (i := 442) (by decide +kernel))))
    (fun i hi j hj => by
      rcases (show i = 0 ∨ i = 1 ∨ i = 2 ∨ i = 3 ∨ i = 4 ∨ i = 5 ∨ i = 6 ∨ i = 7 ∨ i = 8 ∨ i = 9 ∨ i = 10 ∨ i = 11 by omega) with rfl | rfl | rfl | rfl | rfl | rfl | rfl | rfl | rfl | rfl | rfl | rfl
      · have hj : j < 5 := hj
        exact (by
        rcases (show j = 0 ∨ j = 1 ∨ j = 2 ∨ j = 3 ∨ j = 4 by omega) with rfl | rfl | rfl | rfl | rfl
        · exact (hfl _ (List.mem_of_getElem? (i := 296) (by decide +kernel)))
        · exact (hfl _ (List.mem_of_getElem? (i := 297) (by decide +kernel)))
        · exact (hfl _ (List.mem_of_getElem? (i := 298) (by decide +kernel)))
        · exact (hfl _ (List.mem_of_getElem? (i := 299) (by decide +kernel)))
        · exact (hfl _ (List.mem_of_getElem? (i := 300) (by decide +kernel))))
      · have hj : j < 5 := hj
        exact (by
        rcases (show j = 0 ∨ j = 1 ∨ j = 2 ∨ j = 3 ∨ j = 4 by omega) with rfl | rfl | rfl | rfl | rfl
        · exact (hfl _ (List.mem_of_getElem? (i := 305) (by decide +kernel)))
        · exact (hfl _ (List.mem_of_getElem? (i := 306) (by decide +kernel)))
        · exact (hfl _ (List.mem_of_getElem? (i := 307) (by decide +kernel)))
        · exact (hfl _ (List.mem_of_getElem? (i := 308) (by decide +kernel)))
        · exact (hfl _ (List.mem_of_getElem? (i := 309) (by decide +kernel))))
      · have hj : j < 1 := hj
        exact (by
        rcases (show j = 0 by omega) with rfl
        · exact (hfl _ (List.mem_of_getElem? (i := 315) (by decide +kernel))))
      · have hj : j < 1 := hj
        exact (by
        rcases (show j = 0 by omega) with rfl
        · exact (hfl _ (List.mem_of_getElem? (i := 322) (by decide +kernel))))
      · have hj : j < 1 := hj
        exact (by
        rcases (show j = 0 by omega) with rfl
        · exact (hfl _ (List.mem_of_getElem? (i := 330) (by decide +kernel))))
      · have hj : j < 1 := hj
        exact (by
        rcases (show j = 0 by omega) with rfl
        · exact (hfl _ (List.mem_of_getElem? (i := 339) (by decide +kernel))))
      · have hj : j < 3 := hj
        exact (by
        rcases (show j = 0 ∨ j = 1 ∨ j = 2 by omega) with rfl | rfl | rfl
        · exact (hfl _ (List.mem_of_getElem? (i := 349) (by decide +kernel)))
        · exact (hfl _ (List.mem_of_getElem? (i := 350) (by decide +kernel)))
        · exact (hfl _ (List.mem_of_getElem? (i := 351) (by decide +kernel))))
      · have hj : j < 3 := hj
        exact (by
        rcases (show j = 0 ∨ j = 1 ∨ j = 2 by omega) with rfl | rfl | rfl
        · exact (hfl _ (List.mem_of_getElem? (i := 362) (by decide +kernel)))
        · exact (hfl _ (List.mem_of_getElem? (i := 363) (by decide +kernel)))
        · exact (hfl _ (List.mem_of_getElem? (i := 364) (by decide +kernel))))
      · have hj : j < 6 := hj
        exact (by
        rcases (show j = 0 ∨ j = 1 ∨ j = 2 ∨ j = 3 ∨ j = 4 ∨ j = 5 by omega) with rfl | rfl | rfl | rfl | rfl | rfl
        · exact (hfl _ (List.mem_of_getElem? (i := 376) (by decide +kernel)))
        · exact (hfl _ (List.mem_of_getElem? (i := 377) (by decide +kernel)))
        · exact (hfl _ (List.mem_of_getElem? (i := 378) (by decide +kernel)))
        · exact (hfl _ (List.mem_of_getElem? (i := 379) (by decide +kernel)))
        · exact (hfl _ (List.mem_of_getElem? (i := 380) (by decide +kernel)))
        · exact (hfl _ (List.mem_of_getElem? (i := 381) (by decide +kernel))))
      · have hj : j < 11 := hj
        exact (by
        rcases (show j = 0 ∨ j = 1 ∨ j = 2 ∨ j = 3 ∨ j = 4 ∨ j = 5 ∨ j = 6 ∨ j = 7 ∨ j = 8 ∨ j = 9 ∨ j = 10 by omega) with rfl | rfl | rfl | rfl | rfl | rfl | rfl | rfl | rfl | rfl | rfl
        · exact (hfl _ (List.mem_of_getElem? (i := 394) (by decide +kernel)))
        · exact (hfl _ (List.mem_of_getElem? (i := 395) (by decide +kernel)))
        · exact (hfl _ (List.mem_of_getElem? (i := 396) (by decide +kernel)))
        · exact (hfl _ (List.mem_of_getElem? (i := 397) (by decide +kernel)))
        · exact (hfl _ (List.mem_of_getElem? (i := 398) (by decide +kernel)))
        · exact (hfl _ (List.mem_of_getElem? (i := 399) (by decide +kernel)))
        · exact (hfl _ (List.mem_of_getElem? (i := 400) (by decide +kernel)))
        · exact (hfl _ (List.mem_of_getElem? (i := 401) (by decide +kernel)))
        · exact (hfl _ (List.mem_of_getElem? (i := 402) (by decide +kernel)))
        · exact (hfl _ (List.mem_of_getElem? (i := 403) (by decide +kernel)))
        · exact (hfl _ (List.mem_of_getElem? (i := 404) (by decide +kernel))))
      · have hj : j < 11 := hj
        exact (by
        rcases (show j = 0 ∨ j = 1 ∨ j = 2 ∨ j = 3 ∨ j = 4 ∨ j = 5 ∨ j = 6 ∨ j = 7 ∨ j = 8 ∨ j = 9 ∨ j = 10 by omega) with rfl | rfl | rfl | rfl | rfl | rfl | rfl | rfl | rfl | rfl | rfl
        · exact (hfl _ (List.mem_of_getElem? (i := 418) (by decide +kernel)))
        · exact (hfl _ (List.mem_of_getElem? (i := 419) (by decide +kernel)))
        · exact (hfl _ (List.mem_of_getElem? (i := 420) (by decide +kernel)))
        · exact (hfl _ (List.mem_of_getElem? (i := 421) (by decide +kernel)))
        · exact (hfl _ (List.mem_of_getElem? (i := 422) (by decide +kernel)))
        · exact (hfl _ (List.mem_of_getElem? (i := 423) (by decide +kernel)))
        · exact (hfl _ (List.mem_of_getElem? (i := 424) (by decide +kernel)))
        · exact (hfl _ (List.mem_of_getElem? (i := 425) (by decide +kernel)))
        · exact (hfl _ (List.mem_of_getElem? (i := 426) (by decide +kernel)))
        · exact (hfl _ (List.mem_of_getElem? (i := 427) (by decide +kernel)))
        · exact (hfl _ (List.mem_of_getElem? (i := 428) (by decide +kernel))))
      · have hj : j < 1 := hj
        exact (by
        rcases (show j = 0 by omega) with rfl
        · exact (hfl _ (List.mem_of_getElem? (i := 443) (by decide +kernel)))))
    (fun i j hi hj hij => by
      rcases (show i = 0 ∨ i = 1 ∨ i = 2 ∨ i = 3 ∨ i = 4 ∨ i = 5 ∨ i = 6 ∨ i = 7 ∨ i = 8 ∨ i = 9 ∨ i = 10 ∨ i = 11 by omega) with rfl | rfl | rfl | rfl | rfl | rfl | rfl | rfl | rfl | rfl | rfl | rfl
      · rcases (show j = 0 ∨ j = 1 ∨ j = 2 ∨ j = 3 ∨ j = 4 ∨ j = 5 ∨ j = 6 ∨ j = 7 ∨ j = 8 ∨ j = 9 ∨ j = 10 ∨ j = 11 by omega) with rfl | rfl | rfl | rfl | rfl | rfl | rfl | rfl | rfl | rfl | rfl | rfl
        · exact absurd rfl hij
        · exact Or.inl (hfl _ (List.mem_of_getElem? (i := 310) (by decide +kernel)))
        · exact Or.inl (hfl _ (List.mem_of_getElem? (i := 316) (by decide +kernel)))
        · exact Or.inl (hfl _ (List.mem_of_getElem? (i := 323) (by decide +kernel)))
        · exact Or.inl (hfl _ (List.mem_of_getElem? (i := 331) (by decide +kernel)))
        · exact Or.inl (hfl _ (List.mem_of_getElem? (i := 340) (by decide +kernel)))
        · exact Or.inl (hfl _ (List.mem_of_getElem? (i := 352) (by decide +kernel)))
        · exact Or.inl (hfl _ (List.mem_of_getElem? (i := 365) (by decide +kernel)))
        · exact Or.inl (hfl _ (List.mem_of_getElem? (i := 382) (by decide +kernel)))
        · exact Or.inl (hfl _ (List.mem_of_getElem? (i := 405) (by decide +kernel)))
        · exact Or.inl (hfl _ (List.mem_of_getElem? (i := 429) (by decide +kernel)))
        · exact Or.inl (hfl _ (List.mem_of_getElem? (i := 444) (by decide +kernel)))
      · rcases (show j = 0 ∨ j = 1 ∨ j = 2 ∨ j = 3 ∨ j = 4 ∨ j = 5 ∨ j = 6 ∨ j = 7 ∨ j = 8 ∨ j = 9 ∨ j = 10 ∨ j = 11 by omega) with rfl | rfl | rfl | rfl | rfl | rfl | rfl | rfl | rfl | rfl | rfl | rfl
        · exact Or.inr (hfl _ (List.mem_of_getElem? (i := 310) (by decide +kernel)))
        · exact absurd rfl hij
        · exact Or.inl (hfl _ (List.mem_of_getElem? (i := 317) (by decide +kernel)))
        · exact Or.inl (hfl _ (List.mem_of_getElem? (i := 324) (by decide +kernel)))
        · exact Or.inl (hfl _ (List.mem_of_getElem? (i := 332) (by decide +kernel)))
        · exact Or.inl (hfl _ (List.mem_of_getElem? (i := 341) (by decide +kernel)))
        · exact Or.inl (hfl _ (List.mem_of_getElem? (i := 353) (by decide +kernel)))
        · exact Or.inl (hfl _ (List.mem_of_getElem? (i := 366) (by decide +kernel)))
        · exact Or.inl (hfl _ (List.mem_of_getElem? (i := 383) (by decide +kernel)))
        · exact Or.inl (hfl _ (List.mem_of_getElem? (i := 406) (by decide +kernel)))
        · exact Or.inl (hfl _ (List.mem_of_getElem? (i := 430) (by decide +kernel)))
        · exact Or.inl (hfl _ (List.mem_of_getElem? (i := 445) (by decide +kernel)))
      · rcases (show j = 0 ∨ j = 1 ∨ j = 2 ∨ j = 3 ∨ j = 4 ∨ j = 5 ∨ j = 6 ∨ j = 7 ∨ j = 8 ∨ j = 9 ∨ j = 10 ∨ j = 11 by omega) with rfl | rfl | rfl | rfl | rfl | rfl | rfl | rfl | rfl | rfl | rfl | rfl
        · exact Or.inr (hfl _ (List.mem_of_getElem? (i := 316) (by decide +kernel)))
        · exact Or.inr (hfl _ (List.mem_of_getElem? (i := 317) (by decide +kernel)))
        · exact absurd rfl hij
        · exact Or.inl (hfl _ (List.mem_of_getElem? (i := 325) (by decide +kernel)))
        · exact Or.inl (hfl _ (List.mem_of_getElem? (i := 333) (by decide +kernel)))
        · exact Or.inl (hfl _ (List.mem_of_getElem? (i := 342) (by decide +kernel)))
        · exact Or.inl (hfl _ (List.mem_of_getElem? (i := 354) (by decide +kernel)))
        · exact Or.inl (hfl _ (List.mem_of_getElem? (i := 367) (by decide +kernel)))
        · exact Or.inl (hfl _ (List.mem_of_getElem? (i := 384) (by decide +kernel)))
        · exact Or.inl (hfl _ (List.mem_of_getElem? (i := 407) (by decide +kernel)))
        · exact Or.inl (hfl _ (List.mem_of_getElem? (i := 431) (by decide +kernel)))
        · exact Or.inl (hfl _ (List.mem_of_getElem? (i := 446) (by decide +kernel)))
      · rcases (show j = 0 ∨ j = 1 ∨ j = 2 ∨ j = 3 ∨ j = 4 ∨ j = 5 ∨ j = 6 ∨ j = 7 ∨ j = 8 ∨ j = 9 ∨ j = 10 ∨ j = 11 by omega) with rfl | rfl | rfl | rfl | rfl | rfl | rfl | rfl | rfl | rfl | rfl | rfl
        · exact Or.inr (hfl _ (List.mem_of_getElem? (i := 323) (by decide +kernel)))
        · exact Or.inr (hfl _ (List.mem_of_getElem? (i := 324) (by decide +kernel)))
        · exact Or.inr (hfl _ (List.mem_of_getElem? (i := 325) (by decide +kernel)))
        · exact absurd rfl hij
        · exact Or.inl (hfl _ (List.mem_of_getElem? (i := 334) (by decide +kernel)))
        · exact Or.inl (hfl _ (List.mem_of_getElem? (i := 343) (by decide +kernel)))
        · exact Or.inl (hfl _ (List.mem_of_getElem? (i := 355) (by decide +kernel)))
        · exact Or.inl (hfl _ (List.mem_of_getElem? (i := 368) (by decide +kernel)))
        · exact Or.inl (hfl _ (List.mem_of_getElem? (i := 385) (by decide +kernel)))
        · exact Or.inl (hfl _ (List.mem_of_getElem? (i := 408) (by decide +kernel)))
        · exact Or.inl (hfl _ (List.mem_of_getElem? (i := 432) (by decide +kernel)))
        · exact Or.inl (hfl _ (List.mem_of_getElem? (i := 447) (by decide +kernel)))
      · rcases (show j = 0 ∨ j = 1 ∨ j = 2 ∨ j = 3 ∨ j = 4 ∨ j = 5 ∨ j = 6 ∨ j = 7 ∨ j = 8 ∨ j = 9 ∨ j = 10 ∨ j = 11 by omega) with rfl | rfl | rfl | rfl | rfl | rfl | rfl | rfl | rfl | rfl | rfl | rfl
        · exact Or.inr (hfl _ (List.mem_of_getElem? (i := 331) (by decide +kernel)))
        · exact Or.inr (hfl _ (List.mem_of_getElem? (i := 332) (by decide +kernel)))
        · exact Or.inr (hfl _ (List.mem_of_getElem? (i := 333) (by decide +kernel)))
        · exact Or.inr (hfl _ (List.mem_of_getElem? (i := 334) (by decide +kernel)))
        · exact absurd rfl hij
        · exact Or.inl (hfl _ (List.mem_of_getElem? (i := 344) (by decide +kernel)))
        · exact Or.inl (hfl _ (List.mem_of_getElem? (i := 356) (by decide +kernel)))
        · exact Or.inl (hfl _ (List.mem_of_getElem? (i := 369) (by decide +kernel)))
        · exact Or.inl (hfl _ (List.mem_of_getElem? (i := 386) (by decide +kernel)))
        · exact Or.inl (hfl _ (List.mem_of_getElem? (i := 409) (by decide +kernel)))
        · exact Or.inl (hfl _ (List.mem_of_getElem? (i := 433) (by decide +kernel)))
        · exact Or.inl (hfl _ (List.mem_of_getElem? (i := 448) (by decide +kernel)))
      · rcases (show j = 0 ∨ j = 1 ∨ j = 2 ∨ j = 3 ∨ j = 4 ∨ j = 5 ∨ j = 6 ∨ j = 7 ∨ j = 8 ∨ j = 9 ∨ j = 10 ∨ j = 11 by omega) with rfl | rfl | rfl | rfl | rfl | rfl | rfl | rfl | rfl | rfl | rfl | rfl
        · exact Or.inr (hfl _ (List.mem_of_getElem? (i := 340) (by decide +kernel)))
        · exact Or.inr (hfl _ (List.mem_of_getElem? (i := 341) (by decide +kernel)))
        · exact Or.inr (hfl _ (List.mem_of_getElem? (i := 342) (by decide +kernel)))
        · exact Or.inr (hfl _ (List.mem_of_getElem? (i := 343) (by decide +kernel)))
        · exact Or.inr (hfl _ (List.mem_of_getElem? (i := 344) (by decide +kernel)))
        · exact absurd rfl hij
        · exact Or.inl (hfl _ (List.mem_of_getElem? (i := 357) (by decide +kernel)))
        · exact Or.inl (hfl _ (List.mem_of_getElem? (i := 370) (by decide +kernel)))
        · exact Or.inl (hfl _ (List.mem_of_getElem? (i := 387) (by decide +kernel)))
        · exact Or.inl (hfl _ (List.mem_of_getElem? (i := 410) (by decide +kernel)))
        · exact Or.inl (hfl _ (List.mem_of_getElem? (i := 434) (by decide +kernel)))
        · exact Or.inl (hfl _ (List.mem_of_getElem? (i := 449) (by decide +kernel)))
      · rcases (show j = 0 ∨ j = 1 ∨ j = 2 ∨ j = 3 ∨ j = 4 ∨ j = 5 ∨ j = 6 ∨ j = 7 ∨ j = 8 ∨ j = 9 ∨ j = 10 ∨ j = 11 by omega) with rfl | rfl | rfl | rfl | rfl | rfl | rfl | rfl | rfl | rfl | rfl | rfl
        · exact Or.inr (hfl _ (List.mem_of_getElem? (i := 352) (by decide +kernel)))
        · exact Or.inr (hfl _ (List.mem_of_getElem? (i := 353) (by decide +kernel)))
        · exact Or.inr (hfl _ (List.mem_of_getElem? (i := 354) (by decide +kernel)))
        · exact Or.inr (hfl _ (List.mem_of_getElem? (i := 355) (by decide +kernel)))
        · exact Or.inr (hfl _ (List.mem_of_getElem? (i := 356) (by decide +kernel)))
        · exact Or.inr (hfl _ (List.mem_of_getElem? (i := 357) (by decide +kernel)))
        · exact absurd rfl hij
        · exact Or.inl (hfl _ (List.mem_of_getElem? (i := 371) (by decide +kernel)))
        · exact Or.inl (hfl _ (List.mem_of_getElem? (i := 388) (by decide +kernel)))
        · exact Or.inl (hfl _ (List.mem_of_getElem? (i := 411) (by decide +kernel)))
        · exact Or.inl (hfl _ (List.mem_of_getElem? (i := 435) (by decide +kernel)))
        · exact Or.inl (hfl _ (List.mem_of_getElem? (i := 450) (by decide +kernel)))
      · rcases (show j = 0 ∨ j = 1 ∨ j = 2 ∨ j = 3 ∨ j = 4 ∨ j = 5 ∨ j = 6 ∨ j = 7 ∨ j = 8 ∨ j = 9 ∨ j = 10 ∨ j = 11 by omega) with rfl | rfl | rfl | rfl | rfl | rfl | rfl | rfl | rfl | rfl | rfl | rfl
        · exact Or.inr (hfl _ (List.mem_of_getElem? (i := 365) (by decide +kernel)))
        · exact Or.inr (hfl _ (List.mem_of_getElem? (i := 366) (by decide +kernel)))
        · exact Or.inr (hfl _ (List.mem_of_getElem? (i := 367) (by decide +kernel)))
        · exact Or.inr (hfl _ (List.mem_of_getElem? (i := 368) (by decide +kernel)))
        · exact Or.inr (hfl _ (List.mem_of_getElem? (i := 369) (by decide +kernel)))
        · exact Or.inr (hfl _ (List.mem_of_getElem? (i := 370) (by decide +kernel)))
        · exact Or.inr (hfl _ (List.mem_of_getElem? (i := 371) (by decide +kernel)))
        · exact absurd rfl hij
        · exact Or.inl (hfl _ (List.mem_of_getElem? (i := 389) (by decide +kernel)))
        · exact Or.inl (hfl _ (List.mem_of_getElem? (i := 412) (by decide +kernel)))
        · exact Or.inl (hfl _ (List.mem_of_getElem? (i := 436) (by decide +kernel)))
        · exact Or.inl (hfl _ (List.mem_of_getElem? (i := 451) (by decide +kernel)))
      · rcases (show j = 0 ∨ j = 1 ∨ j = 2 ∨ j = 3 ∨ j = 4 ∨ j = 5 ∨ j = 6 ∨ j = 7 ∨ j = 8 ∨ j = 9 ∨ j = 10 ∨ j = 11 by omega) with rfl | rfl | rfl | rfl | rfl | rfl | rfl | rfl | rfl | rfl | rfl | rfl
        · exact Or.inr (hfl _ (List.mem_of_getElem? (i := 382) (by decide +kernel)))
        · exact Or.inr (hfl _ (List.mem_of_getElem? (i := 383) (by decide +kernel)))
        · exact Or.inr (hfl _ (List.mem_of_getElem? (i := 384) (by decide +kernel)))
        · exact Or.inr (hfl _ (List.mem_of_getElem? (i := 385) (by decide +kernel)))
        · exact Or.inr (hfl _ (List.mem_of_getElem? (i := 386) (by decide +kernel)))
        · exact Or.inr (hfl _ (List.mem_of_getElem? (i := 387) (by decide +kernel)))
        · exact Or.inr (hfl _ (List.mem_of_getElem? (i := 388) (by decide +kernel)))
        · exact Or.inr (hfl _ (List.mem_of_getElem? (i := 389) (by decide +kernel)))
        · exact absurd rfl hij
        · exact Or.inl (hfl _ (List.mem_of_getElem? (i := 413) (by decide +kernel)))
        · exact Or.inl (hfl _ (List.mem_of_getElem? (i := 437) (by decide +kernel)))
        · exact Or.inl (hfl _ (List.mem_of_getElem? (i := 452) (by decide +kernel)))
      · rcases (show j = 0 ∨ j = 1 ∨ j = 2 ∨ j = 3 ∨ j = 4 ∨ j = 5 ∨ j = 6 ∨ j = 7 ∨ j = 8 ∨ j = 9 ∨ j = 10 ∨ j = 11 by omega) with rfl | rfl | rfl | rfl | rfl | rfl | rfl | rfl | rfl | rfl | rfl | rfl
        · exact Or.inr (hfl _ (List.mem_of_getElem? (i := 405) (by decide +kernel)))
        · exact Or.inr (hfl _ (List.mem_of_getElem? (i := 406) (by decide +kernel)))
        · exact Or.inr (hfl _ (List.mem_of_getElem? (i := 407) (by decide +kernel)))
        · exact Or.inr (hfl _ (List.mem_of_getElem? (i := 408) (by decide +kernel)))
        · exact Or.inr (hfl _ (List.mem_of_getElem? (i := 409) (by decide +kernel)))
        · exact Or.inr (hfl _ (List.mem_of_getElem? (i := 410) (by decide +kernel)))
        · exact Or.inr (hfl _ (List.mem_of_getElem? (i := 411) (by decide +kernel)))
        · exact Or.inr (hfl _ (List.mem_of_getElem? (i := 412) (by decide +kernel)))
        · exact Or.inr (hfl _ (List.mem_of_getElem? (i := 413) (by decide +kernel)))
        · exact absurd rfl hij
        · exact Or.inl (hfl _ (List.mem_of_getElem? (i := 438) (by decide +kernel)))
        · exact Or.inl (hfl _ (List.mem_of_getElem? (i := 453) (by decide +kernel)))
      · rcases (show j = 0 ∨ j = 1 ∨ j = 2 ∨ j = 3 ∨ j = 4 ∨ j = 5 ∨ j = 6 ∨ j = 7 ∨ j = 8 ∨ j = 9 ∨ j = 10 ∨ j = 11 by omega) with rfl | rfl | rfl | rfl | rfl | rfl | rfl | rfl | rfl | rfl | rfl | rfl
        · exact Or.inr (hfl _ (List.mem_of_getElem? (i := 429) (by decide +kernel)))
        · exact Or.inr (hfl _ (List.mem_of_getElem? (i := 430) (by decide +kernel)))
        · exact Or.inr (hfl _ (List.mem_of_getElem? (i := 431) (by decide +kernel)))
        · exact Or.inr (hfl _ (List.mem_of_getElem? (i := 432) (by decide +kernel)))
        · exact Or.inr (hfl _ (List.mem_of_getElem? (i := 433) (by decide +kernel)))
        · exact Or.inr (hfl _ (List.mem_of_getElem? (i := 434) (by decide +kernel)))
        · exact Or.inr (hfl _ (List.mem_of_getElem? (i := 435) (by decide +kernel)))
        · exact Or.inr (hfl _ (List.mem_of_getElem? (i := 436) (by decide +kernel)))
        · exact Or.inr (hfl _ (List.mem_of_getElem? (i := 437) (by decide +kernel)))
        · exact Or.inr (hfl _ (List.mem_of_getElem? (i := 438) (by decide +kernel)))
        · exact absurd rfl hij
        · exact Or.inl (hfl _ (List.mem_of_getElem? (i := 454) (by decide +kernel)))
      · rcases (show j = 0 ∨ j = 1 ∨ j = 2 ∨ j = 3 ∨ j = 4 ∨ j = 5 ∨ j = 6 ∨ j = 7 ∨ j = 8 ∨ j = 9 ∨ j = 10 ∨ j = 11 by omega) with rfl | rfl | rfl | rfl | rfl | rfl | rfl | rfl | rfl | rfl | rfl | rfl
        · exact Or.inr (hfl _ (List.mem_of_getElem? (i := 444) (by decide +kernel)))
        · exact Or.inr (hfl _ (List.mem_of_getElem? (i := 445) (by decide +kernel)))
        · exact Or.inr (hfl _ (List.mem_of_getElem? (i := 446) (by decide +kernel)))
        · exact Or.inr (hfl _ (List.mem_of_getElem? (i := 447) (by decide +kernel)))
        · exact Or.inr (hfl _ (List.mem_of_getElem? (i := 448) (by decide +kernel)))
        · exact Or.inr (hfl _ (List.mem_of_getElem? (i := 449) (by decide +kernel)))
        · exact Or.inr (hfl _ (List.mem_of_getElem? (i := 450) (by decide +kernel)))
        · exact Or.inr (hfl _ (List.mem_of_getElem? (i := 451) (by decide +kernel)))
        · exact Or.inr (hfl _ (List.mem_of_getElem? (i := 452) (by decide +kernel)))
        · exact Or.inr (hfl _ (List.mem_of_getElem? (i := 453) (by decide +kernel)))
        · exact Or.inr (hfl _ (List.mem_of_getElem? (i := 454) (by decide +kernel)))
        · exact absurd rfl hij) hA
  refine ⟨(fun k => if k = 0 then c0 else if k = 1 then c1 else if k = 2 then c2 else if k = 3 then c3 else if k = 4 then c4 else if k = 5 then c5 else if k = 6 then c6 else if k = 7 then c7 else if k = 8 then c8 else if k = 9 then c9 else if k = 10 then c10 else if k = 11 then c11 else if k = 12 then c12 else c13, fun k => if k = 96 then (fun i => if i = 0 then tP else if i = 1 then tC else if i = 2 then tQ else if i = 3 then b else tG) else if k = 95 then (fun _ => Ls) else if k = 94 then (fun i => (xs i).toBitVec.toNat) else if k = 97 then adV else if k = 98 then adK else if k = 0 then i0 else if k = 1 then i1 else if k = 2 then i2 else if k = 3 then i3 else if k = 4 then i4 else if k = 5 then i5 else if k = 6 then i6 else if k = 7 then i7 else if k = 8 then i8 else if k = 9 then i9 else if k = 10 then i10 else if k = 11 then i11 else if k = 12 then i12 else i13), cI, cJ, cZ, cP, cS, cM, ⟨⟨fun k q hq => ?_, fun k q hq => ?_⟩, ?_⟩, rfl, rfl⟩
  · match k, hq with
    | 0, hq => cases hq; exact hK0
    | 1, hq => cases hq; exact hK1
    | 2, hq => cases hq; exact hK2
    | 3, hq => cases hq; exact hK3
    | 4, hq => cases hq; exact hK4
    | 5, hq => cases hq; exact hK5
    | 6, hq => cases hq; exact hK6
    | 7, hq => cases hq; exact hK7
    | 8, hq => cases hq; exact hK8
    | 9, hq => cases hq; exact hK9
    | 10, hq => cases hq; exact hK10
    | 11, hq => cases hq; exact hK11
    | 12, hq => cases hq; exact hK12
    | 13, hq => cases hq; exact hK13
    | k + 14, hq => simp [vwCl] at hq
  · match k, hq with
    | 0, hq => cases hq; exact aI
    | 1, hq => cases hq; exact aJ
    | 2, hq => cases hq; exact aZ
    | 3, hq => cases hq; exact aP
    | 4, hq => cases hq; exact aS
    | 5, hq => cases hq; exact aM
    | k + 6, hq => simp at hq
  · refine ⟨⟨va_Zof (hts _ (zw_at 3 238 (by decide +kernel))) (hts _ (zw_at 2 3 (by decide +kernel))) eP hA, hTP⟩, ⟨va_Zof (hts _ (zw_at 4 228 (by decide +kernel))) (hts _ (zw_at 2 8 (by decide +kernel))) eC hA, hTC⟩, va_Zof (hts _ (zw_at 3 176 (by decide +kernel))) (hts _ (zw_at 2 15 (by decide +kernel))) (va_eqt (hfl _ (List.mem_of_getElem? (i := 4) (by decide +kernel)))) hA, va_Zqof (hts _ (zw_at 3 192 (by decide +kernel))) (hts _ (zw_at 2 21 (by decide +kernel))) (hfl _ (List.mem_of_getElem? (i := 5) (by decide +kernel))) hA, hS, fun i hi => ?_, fun i hi hj => ?_, va_Zof (hts _ (zw_at 6 173 (by decide +kernel))) (hts _ (zw_at 2 0 (by decide +kernel))) eQ hA, hTQ, hTS, va_Zof (hts _ (zw_at 6 32 (by decide +kernel))) (hts _ (zw_at 2 23 (by decide +kernel))) eG hA, hTG⟩
    · have hq := hSe i (by omega)
      rcases (show i = 0 ∨ i = 1 ∨ i = 2 ∨ i = 3 by omega) with rfl | rfl | rfl | rfl
      · exact vk_R.of (hts _ (zw_at 3 158 (by decide +kernel))) hq
      · exact vk_R.of (hts _ (zw_at 4 11 (by decide +kernel))) hq
      · exact vk_R.of (hts _ (zw_at 4 16 (by decide +kernel))) hq
      · exact vk_R.of (hts _ (zw_at 4 17 (by decide +kernel))) hq
    · have hq := hSe i hi
      rcases (show i = 4 ∨ i = 5 ∨ i = 6 ∨ i = 7 ∨ i = 8 ∨ i = 9 ∨ i = 10 ∨ i = 11 by omega) with rfl | rfl | rfl | rfl | rfl | rfl | rfl | rfl
      · exact vk_R.of (hts _ (zw_at 5 126 (by decide +kernel))) hq
      · exact vk_R.of (hts _ (zw_at 6 16 (by decide +kernel))) hq
      · exact vk_R.of (hts _ (zw_at 6 43 (by decide +kernel))) hq
      · exact vk_R.of (hts _ (zw_at 6 44 (by decide +kernel))) hq
      · exact vk_R.of (hts _ (zw_at 6 174 (by decide +kernel))) hq
      · exact vk_R.of (hts _ (zw_at 6 175 (by decide +kernel))) hq
      · exact vk_R.of (hts _ (zw_at 6 176 (by decide +kernel))) hq
      · exact vk_R.of (hts _ (zw_at 6 177 (by decide +kernel))) hq
end ZLs
