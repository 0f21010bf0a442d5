section ZN
/-- an int that is a whole number -/
def zI (z : Int) : Int32 := Int32.ofInt z
def zL (z : Int) : Int64 := Int64.ofInt z
theorem zI_add (a b : Int) : zI a + zI b = zI (a + b) := (Int32.ofInt_add a b).symm
theorem zI_sub (a b : Int) : zI a - zI b = zI (a - b) := (Int32.ofInt_sub a b).symm
theorem zI_mul (a b : Int) : zI a * zI b = zI (a * b) := (Int32.ofInt_mul a b).symm
theorem zI_neg (a : Int) : -zI a = zI (-a) := (Int32.ofInt_neg a).symm
theorem zL_add (a b : Int) : zL a + zL b = zL (a + b) := (Int64.ofInt_add a b).symm
theorem zL_sub (a b : Int) : zL a - zL b = zL (a - b) := (Int64.ofInt_sub a b).symm
theorem zL_mul (a b : Int) : zL a * zL b = zL (a * b) := (Int64.ofInt_mul a b).symm
theorem zL_neg (a : Int) : -zL a = zL (-a) := (Int64.ofInt_neg a).symm
theorem zI_toInt {z : Int} (h1 : -2147483648 ≤ z) (h2 : z ≤ 2147483647) : (zI z).toInt = z := Int32.toInt_ofInt_of_le (by simpa using h1) (by rw [show (2 : Int) ^ 31 = 2147483648 from rfl]; omega)
theorem zL_toInt {z : Int} (h1 : -9223372036854775808 ≤ z) (h2 : z ≤ 9223372036854775807) : (zL z).toInt = z := Int64.toInt_ofInt_of_le (by simpa using h1) (by rw [show (2 : Int) ^ 63 = 9223372036854775808 from rfl]; omega)
theorem zI_of (x : Int32) : ∃ z : Int, -2147483648 ≤ z ∧ z ≤ 2147483647 ∧ x = zI z := ⟨x.toInt, Int32.le_toInt x, by have := Int32.toInt_lt x; omega, (Int32.ofInt_toInt x).symm⟩
theorem zI_eq {a b : Int} (h1 : -2147483648 ≤ a) (h2 : a ≤ 2147483647) (h3 : -2147483648 ≤ b) (h4 : b ≤ 2147483647) : zI a = zI b ↔ a = b := ⟨fun h => by have h5 := congrArg Int32.toInt h; rwa [zI_toInt h1 h2, zI_toInt h3 h4] at h5, fun h => by rw [h]⟩
theorem zI_lt {a b : Int} (h1 : -2147483648 ≤ a) (h2 : a ≤ 2147483647) (h3 : -2147483648 ≤ b) (h4 : b ≤ 2147483647) : zI a < zI b ↔ a < b := by rw [Int32.lt_iff_toInt_lt, zI_toInt h1 h2, zI_toInt h3 h4]
theorem zI_le {a b : Int} (h1 : -2147483648 ≤ a) (h2 : a ≤ 2147483647) (h3 : -2147483648 ≤ b) (h4 : b ≤ 2147483647) : zI a ≤ zI b ↔ a ≤ b := by rw [Int32.le_iff_toInt_le, zI_toInt h1 h2, zI_toInt h3 h4]
theorem zI_0 : (0 : Int32) = zI 0 := rfl
theorem zI_clamp {z : Int} (h1 : 0 ≤ z) (h2 : z ≤ 2147483647) : (zI z).toNatClampNeg = z.toNat := by
  rw [Int32.toNatClampNeg, zI_toInt (by omega) h2]
theorem zI_in {z : Int} {n : Nat} (h1 : 0 ≤ z) (h2 : z < n) (h3 : z ≤ 2147483647) : vp_in (zI z) n := vp_in_iff.mpr (by rw [zI_toInt (by omega) h3]; exact ⟨h1, h2⟩)
theorem zI_ofToInt (x : Int32) {z : Int} (h : x.toInt = z.bmod (2 ^ 32)) : x = zI z := by
  exact Int32.toInt_inj.mp (h.trans Int32.toInt_ofInt.symm)
theorem zI_div {a b : Int} (h1 : -2147483648 ≤ a) (h2 : a ≤ 2147483647) (h3 : -2147483648 ≤ b) (h4 : b ≤ 2147483647) : zI a / zI b = zI (a.tdiv b) := zI_ofToInt _ (by rw [Int32.toInt_div, zI_toInt h1 h2, zI_toInt h3 h4])
theorem zI_rem {a b : Int} (h1 : -2147483648 ≤ a) (h2 : a ≤ 2147483647) (h3 : -2147483648 ≤ b) (h4 : b ≤ 2147483647) : zI a - zI a / zI b * zI b = zI (a.tmod b) := by
  rw [zI_div h1 h2 h3 h4, zI_mul, zI_sub]
  congr 1
  rw [Int.tmod_def, Int.mul_comm]
theorem zL_ofToInt (x : Int64) {z : Int} (h : x.toInt = z.bmod (2 ^ 64)) : x = zL z := by
  exact Int64.toInt_inj.mp (h.trans Int64.toInt_ofInt.symm)
theorem zL_div {a b : Int} (h1 : -9223372036854775808 ≤ a) (h2 : a ≤ 9223372036854775807) (h3 : -9223372036854775808 ≤ b) (h4 : b ≤ 9223372036854775807) : zL a / zL b = zL (a.tdiv b) := zL_ofToInt _ (by rw [Int64.toInt_div, zL_toInt h1 h2, zL_toInt h3 h4])
theorem zL_rem {a b : Int} (h1 : -9223372036854775808 ≤ a) (h2 : a ≤ 9223372036854775807) (h3 : -9223372036854775808 ≤ b) (h4 : b ≤ 9223372036854775807) : zL a - zL a / zL b * zL b = zL (a.tmod b) := by
  rw [zL_div h1 h2 h3 h4, zL_mul, zL_sub]
  congr 1
  rw [Int.tmod_def, Int.mul_comm]
theorem zI_toL {z : Int} (h1 : -2147483648 ≤ z) (h2 : z ≤ 2147483647) : (zI z).toInt64 = zL z := by
  rw [← Int64.ofInt_toInt (zI z).toInt64, Int32.toInt_toInt64, zI_toInt h1 h2]
  rfl
theorem zL_toI (z : Int) : (zL z).toInt32 = zI z := by
  apply zI_ofToInt
  rw [Int64.toInt_toInt32, show (zL z).toInt = z.bmod (2 ^ 64) from Int64.toInt_ofInt]
  exact Int.bmod_bmod_of_dvd (by decide)
theorem zI_bool {z : Int} (h : z = 0 ∨ z = 1) : narrow .boolean (.int (zI z)) = .int (zI z) := by rcases h with rfl | rfl <;> rfl
/-- a truth as a number -/
noncomputable def bI (P : Prop) : Int := @ite _ P (Classical.propDecidable P) 1 0
theorem bI_t {P : Prop} (h : P) : bI P = 1 := by unfold bI; rw [if_pos h]
theorem bI_f {P : Prop} (h : ¬ P) : bI P = 0 := by unfold bI; rw [if_neg h]
theorem bI_01 (P : Prop) : bI P = 0 ∨ bI P = 1 := by
  by_cases h : P
  · exact Or.inr (bI_t h)
  · exact Or.inl (bI_f h)
theorem bI_0 {P : Prop} (h : bI P = 0) : ¬ P := fun q => by rw [bI_t q] at h; cases h
theorem bI_1 {P : Prop} (h : ¬ bI P = 0) : P := Classical.byContradiction fun q => h (bI_f q)
theorem bI_lo (P : Prop) : 0 ≤ bI P := by rcases bI_01 P with h | h <;> omega
theorem bI_hi (P : Prop) : bI P ≤ 1 := by rcases bI_01 P with h | h <;> omega
/-- a stretch of g as c has it -/
abbrev zcpy (c g : Nat → Int) (sp dp n : Nat) : Nat → Int := va_cpy c g sp dp n
end ZN
section ZNW
/-- the words about nest mates: methods, fields -/
def zNWm : List (String × Nat × MethodName × String) := [("CurveMeets", 9, ⟨"CurveMeets$Space", "<init>", "()V"⟩, "CurveMeets"), ("CurveMeets$Shelf", 28, ⟨"CurveMeets$Poly", "<init>", "()V"⟩, "CurveMeets"), ("CurveMeets$Reader", 48, ⟨"CurveMeets$Poly", "<init>", "()V"⟩, "CurveMeets"), ("CurveMeets", 35, ⟨"CurveMeets$Spot", "<init>", "()V"⟩, "CurveMeets"), ("CurveMeets", 42, ⟨"CurveMeets$View", "<init>", "()V"⟩, "CurveMeets"), ("CurveMeets$View", 11, ⟨"CurveMeets$Poly", "<init>", "()V"⟩, "CurveMeets"), ("CurveMeets$Sharing", 11, ⟨"CurveMeets$Poly", "<init>", "()V"⟩, "CurveMeets"), ("CurveMeets", 61, ⟨"CurveMeets$Reduction", "<init>", "()V"⟩, "CurveMeets"), ("CurveMeets$Ring", 25, ⟨"CurveMeets$Poly", "<init>", "()V"⟩, "CurveMeets"), ("CurveMeets$Maker", 11, ⟨"CurveMeets$Poly", "<init>", "()V"⟩, "CurveMeets"), ("CurveMeets$Maker", 39, ⟨"CurveMeets$Spot", "<init>", "()V"⟩, "CurveMeets"), ("CurveMeets$Reader", 168, ⟨"CurveMeets", "mod", "(II)I"⟩, "CurveMeets"), ("CurveMeets$View", 75, ⟨"CurveMeets", "power", "(III)I"⟩, "CurveMeets"), ("CurveMeets$View", 58, ⟨"CurveMeets", "mod", "(II)I"⟩, "CurveMeets"), ("CurveMeets$Poly", 23, ⟨"CurveMeets", "mod", "(II)I"⟩, "CurveMeets"), ("CurveMeets$Space", 40, ⟨"CurveMeets", "inverse", "(II)I"⟩, "CurveMeets"), ("CurveMeets$Space", 43, ⟨"CurveMeets", "mod", "(II)I"⟩, "CurveMeets"), ("CurveMeets$Poly", 60, ⟨"CurveMeets", "inverse", "(II)I"⟩, "CurveMeets"), ("CurveMeets$Reduction", 66, ⟨"CurveMeets", "inverse", "(II)I"⟩, "CurveMeets"), ("CurveMeets$Reduction", 69, ⟨"CurveMeets", "mod", "(II)I"⟩, "CurveMeets"), ("CurveMeets$Ring", 104, ⟨"CurveMeets", "inverse", "(II)I"⟩, "CurveMeets"), ("CurveMeets$Ring", 107, ⟨"CurveMeets", "mod", "(II)I"⟩, "CurveMeets")]
def zNWf : List (String × Nat × String × String × String × String) := [("CurveMeets$Spot", 35, "CurveMeets$Poly", "cells", "[I", "CurveMeets"), ("CurveMeets$Ring", 97, "CurveMeets$Poly", "cells", "[I", "CurveMeets"), ("CurveMeets$Reader", 117, "CurveMeets$Shelf", "polys", "[LCurveMeets$Poly;", "CurveMeets"), ("CurveMeets$Reader", 138, "CurveMeets$Shelf", "letters", "[I", "CurveMeets")]
def zNW : List Cond := zNWm.map (fun q => .methodLinkNest q.1 q.2.1 q.2.2.1 q.2.2.2) ++ zNWf.map (fun q => .fieldLinkNest q.1 q.2.1 q.2.2.1 q.2.2.2.1 q.2.2.2.2.1 q.2.2.2.2.2)
end ZNW
section ZW
/-- no cell -/
def zJ : va_E := .inr (99, [])
/-- the words about nest mates that the tables hold; they aren't among a method's own words -/
def zAM (U : State) : Prop := (Cond.arrayOver (.array .int)).before #[] U = true ∧ va_Nw (.castable "[B" "java/lang/Cloneable") U
def zOK (U : State) : Prop := (∀ w ∈ zNW, va_Nw w U) ∧ va_AO "CurveMeets$Poly" U ∧ va_AO "CurveMeets$Shelf" U ∧ zAM U
/-- ints in an array -/
abbrev zA (cy : ClassId) (n : Nat) (c : Nat → Int) : va_E := .inl (cy, n, .inl (fun k => zI (c k)))
abbrev zAL (cy : ClassId) (n : Nat) (c : Nat → Int) : va_E := .inl (cy, n, .inr (.inl (fun k => zL (c k))))
abbrev zAR (cy : ClassId) (n : Nat) (r : Nat → Option Nat) : va_E := .inl (cy, n, .inr (.inr (.inr (.inr r))))
/-- c, but x at k -/
def zup (c : Nat → Int) (k : Nat) (x : Int) : Nat → Int := fun j => if j = k then x else c j
theorem zup_self (c : Nat → Int) (k : Nat) (x : Int) : zup c k x k = x := by simp [zup]
theorem zup_ne (c : Nat → Int) {k j : Nat} (x : Int) (h : j ≠ k) : zup c k x j = c j := by simp [zup, h]
/-- the kinds of arrays -/
abbrev zT (cI cJ cZ cP cS cM : ClassId) : List (ClassId × FieldType) := [(cI, .int), (cJ, .byte), (cZ, .boolean), (cP, .object "CurveMeets$Poly"), (cS, .object "CurveMeets$Shelf"), (cM, .array .int)]
def zK (D : va_G) (tys : List (ClassId × FieldType)) (U : State) : Prop := va_K D vwCl tys U ∧ zOK U
/-- what stands for ever: two tables of numbers, four texts, two statics of the machine's own -/
def zPR : Nat → Int := fun k => ([2, 3, 5, 7, 11, 13, 17, 19, 23, 29, 31] : List Int).getD k 0
def zCH : Nat → Int := fun k => ([1, 0, 0, 0, 0, 1, 1, 0, 0, 0, 1, 2, 1, 0, 0, 1, 3, 3, 1, 0, 1, 4, 6, 4, 1] : List Int).getD k 0
def zSl : List Nat := [5, 5, 1, 1, 1, 1, 3, 3, 6, 11, 11, 1]
def zSb : List (List Int32) := [[102, 105, 101, 108, 100], [99, 117, 114, 118, 101], [120], [121], [48], [43], [42, 120, 94], [42, 121, 94], [102, 105, 101, 108, 100, 32], [59, 99, 117, 114, 118, 101, 32, 97, 32, 61, 32], [59, 99, 117, 114, 118, 101, 32, 98, 32, 61, 32], [59]]
def zSk : List Nat := [71, 106, 127, 129, 42, 47, 56, 58, 128, 130, 136, 138]
def zSx : List String := ["field", "curve", "x", "y", "0", "+", "*x^", "*y^", "field ", ";curve a = ", ";curve b = ", ";"]
def zSt (D : va_G) (A : Nat → Prop) (U : State) (H : Heap) : Prop :=
  (va_Z "CurveMeets$Reader" "PRIMES" "[I" (.ref (D.2 96 0)) A U H ∧ va_T .int (D.2 96 0) 11 (fun k => .int (zI (zPR k))) A U H) ∧
  (va_Z "CurveMeets$View" "CHOICES" "[I" (.ref (D.2 96 1)) A U H ∧ va_T .int (D.2 96 1) 25 (fun k => .int (zI (zCH k))) A U H) ∧
  va_Z "java/lang/String" "COMPACT_STRINGS" "Z" (.int 1) A U H ∧ va_Zq "jdk/internal/util/Preconditions" "SIOOBE_FORMATTER" "Ljava/util/function/BiFunction;" A U H ∧
  vk_S 12 zSl zSb (D.2 98) (D.2 97) A U H ∧ (∀ i : Nat, i < 4 → vk_R "CurveMeets$Reader" (zSk.getD i 0) (zSx.getD i "") (D.2 98 i) U) ∧ (∀ i : Nat, i < 12 → 4 ≤ i → vk_R "CurveMeetsLaw" (zSk.getD i 0) (zSx.getD i "") (D.2 98 i) U) ∧ va_Z "CurveMeetsLaw" "PRIMES" "[I" (.ref (D.2 96 2)) A U H ∧ va_T .int (D.2 96 2) 6 (fun k => .int (zI (zPR k))) A U H ∧ va_T .int (D.2 96 3) (D.2 95 0) (fun k => .int (zI ((D.2 94 k : Nat) : Int))) A U H ∧ va_Z "java/lang/Integer" "DigitOnes" "[B" (.ref (D.2 96 4)) A U H ∧ va_T .byte (D.2 96 4) 100 (fun k => .int (zI (48 + ((k % 10 : Nat) : Int)))) A U H
theorem zSt.same {D : va_G} {A : Nat → Prop} {u U : State} {H : Heap} (hvm : u.vm = U.vm) (h : zSt D A u H) : zSt D A U H := by
  have ha0 : u.vm.Alike U.vm := hvm ▸ Vm.Alike.refl u.vm
  obtain ⟨⟨h1, h2⟩, ⟨h3, h4⟩, h5, h6, h7, h8, h9, ha, hb, hc, hd, he⟩ := h
  exact ⟨⟨va_Z.moved ha0 h1, va_T.moved ha0 h2⟩, ⟨va_Z.moved ha0 h3, va_T.moved ha0 h4⟩, va_Z.moved ha0 h5, va_Zq.moved ha0 h6, vk_S.moved ha0 h7, fun i hi => vk_R.same hvm.symm (h8 i hi), fun i hi hj => vk_R.same hvm.symm (h9 i hi hj), va_Z.moved ha0 ha, va_T.moved ha0 hb, va_T.moved ha0 hc, va_Z.moved ha0 hd, va_T.moved ha0 he⟩
theorem zSt.warm {D : va_G} {A : Nat → Prop} {s U : State} {H : Heap} (hW : s.WarmedH U.vm) (h : zSt D A s H) : zSt D A U H := by
  have ha0 := hW.alike
  obtain ⟨⟨h1, h2⟩, ⟨h3, h4⟩, h5, h6, h7, h8, h9, ha, hb, hc, hd, he⟩ := h
  exact ⟨⟨va_Z.moved ha0 h1, va_T.moved ha0 h2⟩, ⟨va_Z.moved ha0 h3, va_T.moved ha0 h4⟩, va_Z.moved ha0 h5, va_Zq.moved ha0 h6, vk_S.moved ha0 h7, fun i hi => vk_R.warm hW (h8 i hi), fun i hi hj => vk_R.warm hW (h9 i hi hj), va_Z.moved ha0 ha, va_T.moved ha0 hb, va_T.moved ha0 hc, va_Z.moved ha0 hd, va_T.moved ha0 he⟩
theorem zSt.kept {D : va_G} {A : Nat → Prop} {U : State} {H H1 : Heap} (h : zSt D A U H) (hq : ∀ a : Nat, a < H.size → ¬ A a → H1[a]? = H[a]?) : zSt D A U H1 := by
  obtain ⟨⟨h1, h2⟩, ⟨h3, h4⟩, h5, h6, h7, h8, h9, ha, hb, hc, hd, he⟩ := h
  exact ⟨⟨h1.kept hq, h2.kept hq⟩, ⟨h3.kept hq, h4.kept hq⟩, h5.kept hq, va_Zq.kept h6 hq, h7.kept hq, h8, h9, ha.kept hq, hb.kept hq, hc.kept hq, hd.kept hq, he.kept hq⟩
theorem zSt.narrow {D : va_G} {A B : Nat → Prop} {U : State} {H : Heap} (h : zSt D A U H) (hAB : ∀ q, B q → A q) : zSt D B U H := by
  obtain ⟨⟨h1, h2⟩, ⟨h3, h4⟩, h5, h6, h7, h8, h9, ha, hb, hc, hd, he⟩ := h
  exact ⟨⟨h1.narrow hAB, h2.narrow hAB⟩, ⟨h3.narrow hAB, h4.narrow hAB⟩, h5.narrow hAB, va_Zq.narrow h6 hAB, h7.narrow hAB, h8, h9, ha.narrow hAB, hb.narrow hAB, hc.narrow hAB, hd.narrow hAB, he.narrow hAB⟩
/-- the world: the addresses L hold f, no other cell is f's; whatever else stands is as it was at H0, outside A -/
def zW (D : va_G) (tys : List (ClassId × FieldType)) (L : List Nat) (A : Nat → Prop) (s : State) (f : Nat → va_E) (H0 H : Heap) (locs : List Loc) : Prop :=
  va_P D vwCl (va_pl L f) H ∧ va_D A (va_pl L f) ∧ va_S A H0 H locs ∧ va_K D vwCl tys s ∧ (∀ a, f a ≠ zJ → a ∈ L) ∧ (∀ q, H0.size ≤ q → A q) ∧ zSt D A s H0
def zQ (L : List Nat) (sz : Nat) : Nat → Prop := fun q => q ∈ L ∨ sz ≤ q
/-- at a method's start -/
def zS (D : va_G) (tys : List (ClassId × FieldType)) (L : List Nat) (sz : Nat) (f : Nat → va_E) (U : State) : Prop :=
  U.heap.size = sz ∧ va_P D vwCl (va_pl L f) U.heap ∧ va_D (fun _ => True) (va_pl L f) ∧ zK D tys U ∧ zSt D (zQ L sz) U U.heap
/-- at its end -/
def zE (D : va_G) (tys : List (ClassId × FieldType)) (L : List Nat) (A : Nat → Prop) (f : Nat → va_E) (t : State) : Prop :=
  va_P D vwCl (va_pl L f) t.heap ∧ va_D A (va_pl L f) ∧ va_K D vwCl tys t
/-- what a method needs of its machine -/
def zC (p : Program) (s : State) (m : MethodId) (args : Array Value) (meth : Method) (c : Code) (cc : ByteArray) (nL : Nat) (ret : Option FieldType) (own : String) (Ts : List Cond) : Prop :=
  p.tables.exec = Jvm.exec ∧ c.code = cc ∧ c.maxLocals = nL ∧ s.vm.findClass own = some m.cls ∧ (∀ w ∈ Ts, w.before args s = true) ∧ meth.locks = false ∧ meth.sig.returnType = ret ∧ zOK s
theorem zpl_nd {A : Nat → Prop} {L : List Nat} {f g : Nat → va_E} (h : va_D A (va_pl L f)) : va_D A (va_pl L g) := by
  have hi : ∀ (i : Nat) (q : Nat × va_E), (va_pl L g)[i]? = some q → ∃ e, (va_pl L f)[i]? = some (q.1, e) := by
    intro i q hq
    unfold va_pl at hq ⊢
    rw [List.getElem?_map] at hq ⊢
    cases hL : L[i]? with
    | none => rw [hL] at hq; cases hq
    | some a =>
      rw [hL] at hq
      cases hq
      exact ⟨f a, rfl⟩
  refine ⟨fun i j p q hp hq hpq => ?_, fun k q hk => ?_⟩
  · obtain ⟨e1, h1⟩ := hi i p hp
    obtain ⟨e2, h2⟩ := hi j q hq
    exact h.1 i j _ _ h1 h2 hpq
  · obtain ⟨e1, h1⟩ := hi k q hk
    exact h.2 k (q.1, e1) h1
theorem zpl_at {D : va_G} {L : List Nat} {f : Nat → va_E} {a : Nat} (h : a ∈ L) : ∃ k : Nat, (va_pl L f)[k]? = some (a, f a) := by
  obtain ⟨k, hk⟩ := va_pl_get (X := []) (f := f) h
  exact ⟨k, hk⟩
theorem zpl_set {A : Nat → Prop} {L : List Nat} {f : Nat → va_E} {a k : Nat} {e : va_E} (hD : va_D A (va_pl L f)) (h : a ∈ L) (hk : (va_pl L f)[k]? = some (a, f a)) : (va_pl L f).set k (a, e) = va_pl L (va_up f a e) := va_pl_set (X := []) hD h hk
/-- the world behind a write at a, whose new function is g -/
theorem zW.up {D : va_G} {tys : List (ClassId × FieldType)} {L : List Nat} {A : Nat → Prop} {s : State} {f g : Nat → va_E} {H0 H H1 : Heap} {locs locs1 : List Loc} {a k : Nat} {e : va_E} (h : zW D tys L A s f H0 H locs) (ha : a ∈ L) (hk : (va_pl L f)[k]? = some (a, f a)) (hg : va_up f a e = g)
    (hP : va_P D vwCl ((va_pl L f).set k (a, e)) H1) (hD : va_D A ((va_pl L f).set k (a, e))) (hS : va_S A H0 H1 locs1) : zW D tys L A s g H0 H1 locs1 := by
  obtain ⟨h1, h2, h3, h4, h5, h6⟩ := h
  rw [zpl_set h2 ha hk] at hP hD
  subst hg
  refine ⟨hP, hD, hS, h4, fun b hb => ?_, h6⟩
  by_cases hba : b = a
  · rw [hba]; exact ha
  · rw [va_up_ne _ _ hba] at hb
    exact h5 b hb
theorem va_up_up {f : Nat → va_E} {a : Nat} {x y : va_E} : va_up (va_up f a x) a y = va_up f a y := by
  funext b
  unfold va_up
  split <;> rfl
theorem va_up_comm {f : Nat → va_E} {a b : Nat} {x y : va_E} (h : a ≠ b) : va_up (va_up f a x) b y = va_up (va_up f b y) a x := by
  funext q
  unfold va_up
  by_cases h1 : q = b
  · subst h1
    rw [if_pos rfl, if_neg (fun e => h e.symm), if_pos rfl]
  · rw [if_neg h1, if_neg h1]
theorem va_up_id {f : Nat → va_E} {a : Nat} {x : va_E} (h : f a = x) : va_up f a x = f := by
  funext b
  unfold va_up
  split
  · rename_i e
    rw [e, h]
  · rfl
theorem zne {f : Nat → va_E} {a b : Nat} {x y : va_E} (ha : f a = x) (hb : f b = y) (h : x ≠ y) : a ≠ b := fun e => h (by rw [← ha, ← hb, e])
theorem zio {cy : ClassId} {x : vp_A} {o : Nat × List Value} : (Sum.inl (cy, x) : va_E) ≠ Sum.inr o := fun h => by cases h
theorem zoi {cy : ClassId} {x : vp_A} {o : Nat × List Value} : (Sum.inr o : va_E) ≠ Sum.inl (cy, x) := fun h => by cases h
theorem zoo {i j : Nat} {u v : List Value} (h : i ≠ j) : (Sum.inr (i, u) : va_E) ≠ Sum.inr (j, v) := fun e => h (by cases e; rfl)
end ZW
section ZR
variable {p : Program} {l : Launch} {e : Env} {R : Room} {s : State} {m : MethodId} {args : Array Value} {below : List Frame} {meth : Method} {c : Code} {H : Heap} {locs : List Loc} {cells slots : Nat} {Q : State → Prop}
variable {cc : ByteArray} {nL pc : Nat} {ret : Option FieldType} {own : String} {Ts : List Cond} {ls : Array Slot} {rest : List Value} {D : va_G} {tys : List (ClassId × FieldType)} {L : List Nat} {A : Nat → Prop} {f g : Nat → va_E} {H0 : Heap} {a : Nat}
theorem z_iadd (C : zC p s m args meth c cc nL ret own Ts) {x y z : Int} (hdg : decode cc pc = .ok (.iadd, 1)) (hz : x + y = z) (k : W p l e R s m args below meth c H locs cells slots Q (F0 m (pc + 1) ls (.int (zI z) :: rest))) : W p l e R s m args below meth c H locs cells slots Q (F0 m pc ls (.int (zI y) :: .int (zI x) :: rest)) := lv_iadd C.1 C.2.1 hdg (by rw [zI_add, hz]; exact k)
theorem z_isub (C : zC p s m args meth c cc nL ret own Ts) {x y z : Int} (hdg : decode cc pc = .ok (.isub, 1)) (hz : x - y = z) (k : W p l e R s m args below meth c H locs cells slots Q (F0 m (pc + 1) ls (.int (zI z) :: rest))) : W p l e R s m args below meth c H locs cells slots Q (F0 m pc ls (.int (zI y) :: .int (zI x) :: rest)) := lv_isub C.1 C.2.1 hdg (by rw [zI_sub, hz]; exact k)
theorem z_imul (C : zC p s m args meth c cc nL ret own Ts) {x y z : Int} (hdg : decode cc pc = .ok (.imul, 1)) (hz : x * y = z) (k : W p l e R s m args below meth c H locs cells slots Q (F0 m (pc + 1) ls (.int (zI z) :: rest))) : W p l e R s m args below meth c H locs cells slots Q (F0 m pc ls (.int (zI y) :: .int (zI x) :: rest)) := lv_imul C.1 C.2.1 hdg (by rw [zI_mul, hz]; exact k)
theorem z_ineg (C : zC p s m args meth c cc nL ret own Ts) {x z : Int} (hdg : decode cc pc = .ok (.ineg, 1)) (hz : -x = z) (k : W p l e R s m args below meth c H locs cells slots Q (F0 m (pc + 1) ls (.int (zI z) :: rest))) : W p l e R s m args below meth c H locs cells slots Q (F0 m pc ls (.int (zI x) :: rest)) := lv_ineg C.1 C.2.1 hdg (by rw [zI_neg, hz]; exact k)
theorem z_irem (C : zC p s m args meth c cc nL ret own Ts) {x y z : Int} (hdg : decode cc pc = .ok (.irem, 1)) (hx : -2147483648 ≤ x ∧ x ≤ 2147483647) (hy : 0 < y ∧ y ≤ 2147483647) (hz : x.tmod y = z) (k : W p l e R s m args below meth c H locs cells slots Q (F0 m (pc + 1) ls (.int (zI z) :: rest))) : W p l e R s m args below meth c H locs cells slots Q (F0 m pc ls (.int (zI y) :: .int (zI x) :: rest)) :=
  lv_irem C.1 C.2.1 hdg (by rw [zI_0, zI_eq (by omega) (by omega) (by omega) (by omega)]; omega) (by rw [zI_rem hx.1 hx.2 (by omega) hy.2, hz]; exact k)
theorem z_idiv (C : zC p s m args meth c cc nL ret own Ts) {x y z : Int} (hdg : decode cc pc = .ok (.idiv, 1)) (hx : -2147483648 ≤ x ∧ x ≤ 2147483647) (hy : 0 < y ∧ y ≤ 2147483647) (hz : x.tdiv y = z) (k : W p l e R s m args below meth c H locs cells slots Q (F0 m (pc + 1) ls (.int (zI z) :: rest))) : W p l e R s m args below meth c H locs cells slots Q (F0 m pc ls (.int (zI y) :: .int (zI x) :: rest)) :=
  lv_idiv C.1 C.2.1 hdg (by rw [zI_0, zI_eq (by omega) (by omega) (by omega) (by omega)]; omega) (by rw [zI_div hx.1 hx.2 (by omega) hy.2, hz]; exact k)
theorem z_icmp_lt (C : zC p s m args meth c cc nL ret own Ts) {x y : Int} {off : Int} {tgt : Nat} (hdg : decode cc pc = .ok (.if_icmp .lt off, 3)) (ht : (pc : Int) + off = (tgt : Int)) (hx : -2147483648 ≤ x ∧ x ≤ 2147483647) (hy : -2147483648 ≤ y ∧ y ≤ 2147483647)
    (kt : x < y → W p l e R s m args below meth c H locs cells slots Q (F0 m tgt ls rest)) (kf : y ≤ x → W p l e R s m args below meth c H locs cells slots Q (F0 m (pc + 3) ls rest)) : W p l e R s m args below meth c H locs cells slots Q (F0 m pc ls (.int (zI y) :: .int (zI x) :: rest)) :=
  lv_icmp_lt C.1 C.2.1 hdg ht (fun h => kt ((zI_lt hx.1 hx.2 hy.1 hy.2).mp h)) (fun h => kf (by rw [zI_lt hx.1 hx.2 hy.1 hy.2] at h; omega))
theorem z_icmp_ge (C : zC p s m args meth c cc nL ret own Ts) {x y : Int} {off : Int} {tgt : Nat} (hdg : decode cc pc = .ok (.if_icmp .ge off, 3)) (ht : (pc : Int) + off = (tgt : Int)) (hx : -2147483648 ≤ x ∧ x ≤ 2147483647) (hy : -2147483648 ≤ y ∧ y ≤ 2147483647)
    (kt : y ≤ x → W p l e R s m args below meth c H locs cells slots Q (F0 m tgt ls rest)) (kf : x < y → W p l e R s m args below meth c H locs cells slots Q (F0 m (pc + 3) ls rest)) : W p l e R s m args below meth c H locs cells slots Q (F0 m pc ls (.int (zI y) :: .int (zI x) :: rest)) :=
  lv_icmp_ge C.1 C.2.1 hdg ht (fun h => kt ((zI_le hy.1 hy.2 hx.1 hx.2).mp h)) (fun h => kf (by replace h : ¬ zI y ≤ zI x := h; rw [zI_le hy.1 hy.2 hx.1 hx.2] at h; omega))
theorem z_icmp_gt (C : zC p s m args meth c cc nL ret own Ts) {x y : Int} {off : Int} {tgt : Nat} (hdg : decode cc pc = .ok (.if_icmp .gt off, 3)) (ht : (pc : Int) + off = (tgt : Int)) (hx : -2147483648 ≤ x ∧ x ≤ 2147483647) (hy : -2147483648 ≤ y ∧ y ≤ 2147483647)
    (kt : y < x → W p l e R s m args below meth c H locs cells slots Q (F0 m tgt ls rest)) (kf : x ≤ y → W p l e R s m args below meth c H locs cells slots Q (F0 m (pc + 3) ls rest)) : W p l e R s m args below meth c H locs cells slots Q (F0 m pc ls (.int (zI y) :: .int (zI x) :: rest)) :=
  lv_icmp_gt C.1 C.2.1 hdg ht (fun h => kt ((zI_lt hy.1 hy.2 hx.1 hx.2).mp h)) (fun h => kf (by replace h : ¬ zI y < zI x := h; rw [zI_lt hy.1 hy.2 hx.1 hx.2] at h; omega))
theorem z_icmp_le (C : zC p s m args meth c cc nL ret own Ts) {x y : Int} {off : Int} {tgt : Nat} (hdg : decode cc pc = .ok (.if_icmp .le off, 3)) (ht : (pc : Int) + off = (tgt : Int)) (hx : -2147483648 ≤ x ∧ x ≤ 2147483647) (hy : -2147483648 ≤ y ∧ y ≤ 2147483647)
    (kt : x ≤ y → W p l e R s m args below meth c H locs cells slots Q (F0 m tgt ls rest)) (kf : y < x → W p l e R s m args below meth c H locs cells slots Q (F0 m (pc + 3) ls rest)) : W p l e R s m args below meth c H locs cells slots Q (F0 m pc ls (.int (zI y) :: .int (zI x) :: rest)) :=
  lv_icmp_le C.1 C.2.1 hdg ht (fun h => kt ((zI_le hx.1 hx.2 hy.1 hy.2).mp h)) (fun h => kf (by rw [zI_le hx.1 hx.2 hy.1 hy.2] at h; omega))
theorem z_icmp_eq (C : zC p s m args meth c cc nL ret own Ts) {x y : Int} {off : Int} {tgt : Nat} (hdg : decode cc pc = .ok (.if_icmp .eq off, 3)) (ht : (pc : Int) + off = (tgt : Int)) (hx : -2147483648 ≤ x ∧ x ≤ 2147483647) (hy : -2147483648 ≤ y ∧ y ≤ 2147483647)
    (kt : x = y → W p l e R s m args below meth c H locs cells slots Q (F0 m tgt ls rest)) (kf : ¬ x = y → W p l e R s m args below meth c H locs cells slots Q (F0 m (pc + 3) ls rest)) : W p l e R s m args below meth c H locs cells slots Q (F0 m pc ls (.int (zI y) :: .int (zI x) :: rest)) :=
  lv_icmp_eq C.1 C.2.1 hdg ht (fun h => kt ((zI_eq hx.1 hx.2 hy.1 hy.2).mp h)) (fun h => kf (fun q => h (by rw [q])))
theorem z_icmp_ne (C : zC p s m args meth c cc nL ret own Ts) {x y : Int} {off : Int} {tgt : Nat} (hdg : decode cc pc = .ok (.if_icmp .ne off, 3)) (ht : (pc : Int) + off = (tgt : Int)) (hx : -2147483648 ≤ x ∧ x ≤ 2147483647) (hy : -2147483648 ≤ y ∧ y ≤ 2147483647)
    (kt : ¬ x = y → W p l e R s m args below meth c H locs cells slots Q (F0 m tgt ls rest)) (kf : x = y → W p l e R s m args below meth c H locs cells slots Q (F0 m (pc + 3) ls rest)) : W p l e R s m args below meth c H locs cells slots Q (F0 m pc ls (.int (zI y) :: .int (zI x) :: rest)) :=
  lv_icmp_ne C.1 C.2.1 hdg ht (fun h => kt (fun q => h (by rw [q]))) (fun h => kf ((zI_eq hx.1 hx.2 hy.1 hy.2).mp h))
theorem z_if_eq (C : zC p s m args meth c cc nL ret own Ts) {x : Int} {off : Int} {tgt : Nat} (hdg : decode cc pc = .ok (.ifCond .eq off, 3)) (ht : (pc : Int) + off = (tgt : Int)) (hx : -2147483648 ≤ x ∧ x ≤ 2147483647)
    (kt : x = 0 → W p l e R s m args below meth c H locs cells slots Q (F0 m tgt ls rest)) (kf : ¬ x = 0 → W p l e R s m args below meth c H locs cells slots Q (F0 m (pc + 3) ls rest)) : W p l e R s m args below meth c H locs cells slots Q (F0 m pc ls (.int (zI x) :: rest)) :=
  lv_if_eq C.1 C.2.1 hdg ht (fun h => kt ((zI_eq hx.1 hx.2 (by omega) (by omega)).mp h)) (fun h => kf (fun q => h (by rw [q]; rfl)))
theorem z_if_ne (C : zC p s m args meth c cc nL ret own Ts) {x : Int} {off : Int} {tgt : Nat} (hdg : decode cc pc = .ok (.ifCond .ne off, 3)) (ht : (pc : Int) + off = (tgt : Int)) (hx : -2147483648 ≤ x ∧ x ≤ 2147483647)
    (kt : ¬ x = 0 → W p l e R s m args below meth c H locs cells slots Q (F0 m tgt ls rest)) (kf : x = 0 → W p l e R s m args below meth c H locs cells slots Q (F0 m (pc + 3) ls rest)) : W p l e R s m args below meth c H locs cells slots Q (F0 m pc ls (.int (zI x) :: rest)) :=
  lv_if_ne C.1 C.2.1 hdg ht (fun h => kt (fun q => h (by rw [q]; rfl))) (fun h => kf ((zI_eq hx.1 hx.2 (by omega) (by omega)).mp h))
theorem z_if_lt (C : zC p s m args meth c cc nL ret own Ts) {x : Int} {off : Int} {tgt : Nat} (hdg : decode cc pc = .ok (.ifCond .lt off, 3)) (ht : (pc : Int) + off = (tgt : Int)) (hx : -2147483648 ≤ x ∧ x ≤ 2147483647)
    (kt : x < 0 → W p l e R s m args below meth c H locs cells slots Q (F0 m tgt ls rest)) (kf : 0 ≤ x → W p l e R s m args below meth c H locs cells slots Q (F0 m (pc + 3) ls rest)) : W p l e R s m args below meth c H locs cells slots Q (F0 m pc ls (.int (zI x) :: rest)) :=
  lv_if_lt C.1 C.2.1 hdg ht (fun h => kt ((zI_lt hx.1 hx.2 (by omega) (by omega)).mp (show zI x < zI 0 from h))) (fun h => kf (by replace h : ¬ zI x < zI 0 := h; rw [zI_lt hx.1 hx.2 (by omega) (by omega)] at h; omega))
theorem z_if_ge (C : zC p s m args meth c cc nL ret own Ts) {x : Int} {off : Int} {tgt : Nat} (hdg : decode cc pc = .ok (.ifCond .ge off, 3)) (ht : (pc : Int) + off = (tgt : Int)) (hx : -2147483648 ≤ x ∧ x ≤ 2147483647)
    (kt : 0 ≤ x → W p l e R s m args below meth c H locs cells slots Q (F0 m tgt ls rest)) (kf : x < 0 → W p l e R s m args below meth c H locs cells slots Q (F0 m (pc + 3) ls rest)) : W p l e R s m args below meth c H locs cells slots Q (F0 m pc ls (.int (zI x) :: rest)) :=
  lv_if_ge C.1 C.2.1 hdg ht (fun h => kt ((zI_le (by omega) (by omega) hx.1 hx.2).mp (show zI 0 ≤ zI x from h))) (fun h => kf (by replace h : ¬ zI 0 ≤ zI x := h; rw [zI_le (by omega) (by omega) hx.1 hx.2] at h; omega))
theorem z_if_gt (C : zC p s m args meth c cc nL ret own Ts) {x : Int} {off : Int} {tgt : Nat} (hdg : decode cc pc = .ok (.ifCond .gt off, 3)) (ht : (pc : Int) + off = (tgt : Int)) (hx : -2147483648 ≤ x ∧ x ≤ 2147483647)
    (kt : 0 < x → W p l e R s m args below meth c H locs cells slots Q (F0 m tgt ls rest)) (kf : x ≤ 0 → W p l e R s m args below meth c H locs cells slots Q (F0 m (pc + 3) ls rest)) : W p l e R s m args below meth c H locs cells slots Q (F0 m pc ls (.int (zI x) :: rest)) :=
  lv_if_gt C.1 C.2.1 hdg ht (fun h => kt ((zI_lt (by omega) (by omega) hx.1 hx.2).mp (show zI 0 < zI x from h))) (fun h => kf (by replace h : ¬ zI 0 < zI x := h; rw [zI_lt (by omega) (by omega) hx.1 hx.2] at h; omega))
theorem z_if_le (C : zC p s m args meth c cc nL ret own Ts) {x : Int} {off : Int} {tgt : Nat} (hdg : decode cc pc = .ok (.ifCond .le off, 3)) (ht : (pc : Int) + off = (tgt : Int)) (hx : -2147483648 ≤ x ∧ x ≤ 2147483647)
    (kt : x ≤ 0 → W p l e R s m args below meth c H locs cells slots Q (F0 m tgt ls rest)) (kf : 0 < x → W p l e R s m args below meth c H locs cells slots Q (F0 m (pc + 3) ls rest)) : W p l e R s m args below meth c H locs cells slots Q (F0 m pc ls (.int (zI x) :: rest)) :=
  lv_if_le C.1 C.2.1 hdg ht (fun h => kt ((zI_le hx.1 hx.2 (by omega) (by omega)).mp (show zI x ≤ zI 0 from h))) (fun h => kf (by replace h : ¬ zI x ≤ zI 0 := h; rw [zI_le hx.1 hx.2 (by omega) (by omega)] at h; omega))
-- the heap's rows
theorem zC.at (C : zC p s m args meth c cc nL ret own Ts) {w : Cond} (h : w ∈ Ts) : w.before args s = true := C.2.2.2.2.1 w h
theorem zW.mem (h : zW D tys L A s f H0 H locs) {x : va_E} (hf : f a = x) (hx : x ≠ zJ) : a ∈ L := h.2.2.2.2.1 a (by rw [hf]; exact hx)
theorem zJi {cy : ClassId} {x : vp_A} : (Sum.inl (cy, x) : va_E) ≠ zJ := fun h => by cases h
theorem zJo {ci : Nat} {fs : List Value} {r : vw_C} (hc : vwCl[ci]? = some r) : (Sum.inr (ci, fs) : va_E) ≠ zJ := fun h => by
  cases h
  cases hc
theorem z_get (C : zC p s m args meth c cc nL ret own Ts) (hW : zW D tys L A s f H0 H locs) {ci : Nat} {fs : List Value} {v : Value} {Cn ref : String} {T : u_T} {N index : Nat} (hf : f a = .inr (ci, fs)) (hc : vwCl[ci]? = some (Cn, T, N)) (hin : ∀ w ∈ u_ws Cn T N, w ∈ Ts) (k : Nat) (hk : k < N) (hlink : Cond.fieldLink own index ref (T k).2.1 (T k).2.2.1 ∈ Ts) (hsame : ref = (T k).1) (hv : fs[k]? = some v) (hdg : decode cc pc = .ok (.getfield index, 3))
    (kk : W p l e R s m args below meth c H locs cells slots Q (F0 m (pc + 3) ls (v :: rest))) : W p l e R s m args below meth c H locs cells slots Q (F0 m pc ls (.ref a :: rest)) := by
  obtain ⟨k0, hk0⟩ := zpl_at (D := D) (f := f) (hW.mem hf (zJo hc))
  rw [hf] at hk0
  exact va_get C.1 C.2.1 C.2.2.2.2.1 hin C.2.2.2.1 hW.2.2.2.1 hW.1 k0 hk0 hc k hk (C.at hlink) (fun x h => by rw [hsame]; exact h) hv hdg kk
theorem z_getN (C : zC p s m args meth c cc nL ret own Ts) (hW : zW D tys L A s f H0 H locs) {ci : Nat} {fs : List Value} {v : Value} {Cn ref host : String} {T : u_T} {N index : Nat} (hf : f a = .inr (ci, fs)) (hc : vwCl[ci]? = some (Cn, T, N)) (hin : ∀ w ∈ u_ws Cn T N, w ∈ Ts) (k : Nat) (hk : k < N) (hlink : Cond.fieldLinkNest own index ref (T k).2.1 (T k).2.2.1 host ∈ zNW) (hsame : ref = (T k).1) (hv : fs[k]? = some v) (hdg : decode cc pc = .ok (.getfield index, 3))
    (kk : W p l e R s m args below meth c H locs cells slots Q (F0 m (pc + 3) ls (v :: rest))) : W p l e R s m args below meth c H locs cells slots Q (F0 m pc ls (.ref a :: rest)) := by
  obtain ⟨k0, hk0⟩ := zpl_at (D := D) (f := f) (hW.mem hf (zJo hc))
  rw [hf] at hk0
  exact va_getN C.1 C.2.1 C.2.2.2.2.1 hin C.2.2.2.1 hW.2.2.2.1 hW.1 k0 hk0 hc k hk (va_Nw.use rfl (C.2.2.2.2.2.2.2.1 _ hlink)) (fun x h => by rw [hsame]; exact h) hv hdg kk
theorem z_put (C : zC p s m args meth c cc nL ret own Ts) (hW : zW D tys L A s f H0 H locs) {ci : Nat} {fs : List Value} {v : Value} {Cn ref : String} {T : u_T} {N index : Nat} (hf : f a = .inr (ci, fs)) (hc : vwCl[ci]? = some (Cn, T, N)) (hin : ∀ w ∈ u_ws Cn T N, w ∈ Ts) (ty0 : Nat → FieldType) (hty : ∀ k, k < N → parseFieldDescriptor (T k).2.2.1 = some (ty0 k)) (hnm : ∀ a, a < N → ∀ b, b < N → a ≠ b → (T a).2.1 ≠ (T b).2.1) (k : Nat) (hk : k < N) (hlink : Cond.fieldLink own index ref (T k).2.1 (T k).2.2.1 ∈ Ts) (hsame : ref = (T k).1) (hfin : (T k).2.2.2 = false) (hn : narrow (ty0 k) v = v) (hfit : fits (ty0 k) v = true) (hl : k < fs.length) (hg : va_up f a (.inr (ci, fs.set k v)) = g) (hdg : decode cc pc = .ok (.putfield index, 3))
    (kk : ∀ (H1 : Heap) (locs1 : List Loc), zW D tys L A s g H0 H1 locs1 → W p l e R s m args below meth c H1 locs1 cells slots Q (F0 m (pc + 3) ls rest)) : W p l e R s m args below meth c H locs cells slots Q (F0 m pc ls (v :: .ref a :: rest)) := by
  have ha := hW.mem hf (zJo hc)
  obtain ⟨k0, hk1⟩ := zpl_at (D := D) (f := f) ha
  have hk0 := hk1
  rw [hf] at hk0
  exact va_put C.1 C.2.1 C.2.2.2.2.1 hin ty0 hty hnm C.2.2.2.1 hW.2.2.2.1 hW.1 hW.2.1 hW.2.2.1 k0 hk0 hc k hk (C.at hlink) (fun x h => by rw [hsame]; exact h) hfin (hty k hk) hn hfit hl hdg (fun H1 locs1 hP hD hS => kk H1 locs1 (hW.up ha hk1 hg hP hD hS))
theorem z_putF (C : zC p s m args meth c cc nL ret own Ts) (hW : zW D tys L A s f H0 H locs) {ci : Nat} {fs : List Value} {v : Value} {Cn ref : String} {T : u_T} {N index : Nat} (hf : f a = .inr (ci, fs)) (hc : vwCl[ci]? = some (Cn, T, N)) (hin : ∀ w ∈ u_ws Cn T N, w ∈ Ts) (ty0 : Nat → FieldType) (hty : ∀ k, k < N → parseFieldDescriptor (T k).2.2.1 = some (ty0 k)) (hnm : ∀ a, a < N → ∀ b, b < N → a ≠ b → (T a).2.1 ≠ (T b).2.1) (k : Nat) (hk : k < N) (hlink : Cond.fieldLink own index ref (T k).2.1 (T k).2.2.1 ∈ Ts) (hsame : ref = (T k).1) (hfin : (T k).2.2.2 = true) (hin2 : meth.name = "<init>") (hdecl : (T k).1 = own) (hn : narrow (ty0 k) v = v) (hfit : fits (ty0 k) v = true) (hl : k < fs.length) (hg : va_up f a (.inr (ci, fs.set k v)) = g) (hdg : decode cc pc = .ok (.putfield index, 3))
    (kk : ∀ (H1 : Heap) (locs1 : List Loc), zW D tys L A s g H0 H1 locs1 → W p l e R s m args below meth c H1 locs1 cells slots Q (F0 m (pc + 3) ls rest)) : W p l e R s m args below meth c H locs cells slots Q (F0 m pc ls (v :: .ref a :: rest)) := by
  have ha := hW.mem hf (zJo hc)
  obtain ⟨k0, hk1⟩ := zpl_at (D := D) (f := f) ha
  have hk0 := hk1
  rw [hf] at hk0
  exact va_putF C.1 C.2.1 C.2.2.2.2.1 hin ty0 hty hnm C.2.2.2.1 hW.2.2.2.1 hW.1 hW.2.1 hW.2.2.1 k0 hk0 hc k hk (C.at hlink) (fun x h => by rw [hsame]; exact h) hfin hin2 hdecl (hty k hk) hn hfit hl hdg (fun H1 locs1 hP hD hS => kk H1 locs1 (hW.up ha hk1 hg hP hD hS))
theorem z_iald (C : zC p s m args meth c cc nL ret own Ts) (hW : zW D tys L A s f H0 H locs) {cy : ClassId} {n : Nat} {d : Nat → Int} {i z : Int} (hf : f a = zA cy n d) (t0 : Nat) (ht : tys[t0]? = some (cy, .int)) (hi : 0 ≤ i ∧ i < n ∧ i ≤ 2147483647) (hz : d i.toNat = z) (hdg : decode cc pc = .ok (.iaload, 1))
    (kk : W p l e R s m args below meth c H locs cells slots Q (F0 m (pc + 1) ls (.int (zI z) :: rest))) : W p l e R s m args below meth c H locs cells slots Q (F0 m pc ls (.int (zI i) :: .ref a :: rest)) := by
  obtain ⟨k0, hk0⟩ := zpl_at (D := D) (f := f) (hW.mem hf zJi)
  rw [hf] at hk0
  refine va_iald C.1 C.2.1 hW.2.2.2.1 hW.1 k0 t0 hk0 ht (zI_in hi.1 hi.2.1 hi.2.2) hdg ?_
  rw [zI_clamp hi.1 hi.2.2]
  subst hz
  exact kk
theorem z_zald (C : zC p s m args meth c cc nL ret own Ts) (hW : zW D tys L A s f H0 H locs) {cy : ClassId} {n : Nat} {d : Nat → Int} {i z : Int} (hf : f a = zA cy n d) (t0 : Nat) (ht : tys[t0]? = some (cy, .boolean)) (hi : 0 ≤ i ∧ i < n ∧ i ≤ 2147483647) (hz : d i.toNat = z) (hdg : decode cc pc = .ok (.baload, 1))
    (kk : W p l e R s m args below meth c H locs cells slots Q (F0 m (pc + 1) ls (.int (zI z) :: rest))) : W p l e R s m args below meth c H locs cells slots Q (F0 m pc ls (.int (zI i) :: .ref a :: rest)) := by
  obtain ⟨k0, hk0⟩ := zpl_at (D := D) (f := f) (hW.mem hf zJi)
  rw [hf] at hk0
  refine va_zald C.1 C.2.1 hW.2.2.2.1 hW.1 k0 t0 hk0 ht (zI_in hi.1 hi.2.1 hi.2.2) hdg ?_
  rw [zI_clamp hi.1 hi.2.2]
  subst hz
  exact kk
theorem z_lald (C : zC p s m args meth c cc nL ret own Ts) (hW : zW D tys L A s f H0 H locs) {cy : ClassId} {n : Nat} {d : Nat → Int} {i z : Int} (hf : f a = zAL cy n d) (t0 : Nat) (ht : tys[t0]? = some (cy, .long)) (hi : 0 ≤ i ∧ i < n ∧ i ≤ 2147483647) (hz : d i.toNat = z) (hdg : decode cc pc = .ok (.laload, 1))
    (kk : W p l e R s m args below meth c H locs cells slots Q (F0 m (pc + 1) ls (.long (zL z) :: rest))) : W p l e R s m args below meth c H locs cells slots Q (F0 m pc ls (.int (zI i) :: .ref a :: rest)) := by
  obtain ⟨k0, hk0⟩ := zpl_at (D := D) (f := f) (hW.mem hf zJi)
  rw [hf] at hk0
  refine va_lald C.1 C.2.1 hW.2.2.2.1 hW.1 k0 t0 hk0 ht (zI_in hi.1 hi.2.1 hi.2.2) hdg ?_
  rw [zI_clamp hi.1 hi.2.2]
  subst hz
  exact kk
theorem z_aald (C : zC p s m args meth c cc nL ret own Ts) (hW : zW D tys L A s f H0 H locs) {cy : ClassId} {n : Nat} {r : Nat → Option Nat} {i : Int} {o : Option Nat} {Cn : String} (hf : f a = zAR cy n r) (t0 : Nat) (ht : tys[t0]? = some (cy, .object Cn)) (hi : 0 ≤ i ∧ i < n ∧ i ≤ 2147483647) (hz : r i.toNat = o) (hdg : decode cc pc = .ok (.aaload, 1))
    (kk : W p l e R s m args below meth c H locs cells slots Q (F0 m (pc + 1) ls (va_rf o :: rest))) : W p l e R s m args below meth c H locs cells slots Q (F0 m pc ls (.int (zI i) :: .ref a :: rest)) := by
  obtain ⟨k0, hk0⟩ := zpl_at (D := D) (f := f) (hW.mem hf zJi)
  rw [hf] at hk0
  refine va_aldq C.1 C.2.1 hW.2.2.2.1 hW.1 k0 t0 hk0 ht (zI_in hi.1 hi.2.1 hi.2.2) hdg ?_
  rw [zI_clamp hi.1 hi.2.2]
  subst hz
  exact kk
theorem z_alen (C : zC p s m args meth c cc nL ret own Ts) (hW : zW D tys L A s f H0 H locs) {cy : ClassId} {x : vp_A} {ty : FieldType} (hf : f a = .inl (cy, x)) (t0 : Nat) (ht : tys[t0]? = some (cy, ty)) {n : Int} (hn : (x.1 : Int) = n) (hdg : decode cc pc = .ok (.arraylength, 1))
    (kk : W p l e R s m args below meth c H locs cells slots Q (F0 m (pc + 1) ls (.int (zI n) :: rest))) : W p l e R s m args below meth c H locs cells slots Q (F0 m pc ls (.ref a :: rest)) := by
  obtain ⟨k0, hk0⟩ := zpl_at (D := D) (f := f) (hW.mem hf zJi)
  rw [hf] at hk0
  subst hn
  exact va_alen C.1 C.2.1 hW.2.2.2.1 hW.1 k0 t0 hk0 ht (Int32.toInt_inj.mp (by rw [Int32.toInt_ofNat', zI, Int32.toInt_ofInt])) hdg kk
theorem zup_fn (d : Nat → Int) (k : Nat) (x : Int) : upd (fun k => zI (d k)) k (zI x) = fun j => zI (zup d k x j) := by
  funext j
  unfold upd zup
  split <;> rfl
theorem z_iast (C : zC p s m args meth c cc nL ret own Ts) (hW : zW D tys L A s f H0 H locs) {cy : ClassId} {n : Nat} {d : Nat → Int} {i x : Int} (hf : f a = zA cy n d) (t0 : Nat) (ht : tys[t0]? = some (cy, .int)) (hi : 0 ≤ i ∧ i < n ∧ i ≤ 2147483647) (hg : va_up f a (zA cy n (zup d i.toNat x)) = g) (hdg : decode cc pc = .ok (.iastore, 1))
    (kk : ∀ (H1 : Heap) (locs1 : List Loc), zW D tys L A s g H0 H1 locs1 → W p l e R s m args below meth c H1 locs1 cells slots Q (F0 m (pc + 1) ls rest)) : W p l e R s m args below meth c H locs cells slots Q (F0 m pc ls (.int (zI x) :: .int (zI i) :: .ref a :: rest)) := by
  have ha := hW.mem hf zJi
  obtain ⟨k0, hk1⟩ := zpl_at (D := D) (f := f) ha
  have hk0 := hk1
  rw [hf] at hk0
  refine va_iast C.1 C.2.1 hW.2.2.2.1 hW.1 hW.2.1 hW.2.2.1 k0 t0 hk0 ht (zI_in hi.1 hi.2.1 hi.2.2) hdg (fun H1 locs1 hP hD hS => kk H1 locs1 ?_)
  rw [zI_clamp hi.1 hi.2.2, zup_fn] at hP hD
  exact hW.up ha hk1 hg hP hD hS
theorem z_zast (C : zC p s m args meth c cc nL ret own Ts) (hW : zW D tys L A s f H0 H locs) {cy : ClassId} {n : Nat} {d : Nat → Int} {i x : Int} (hf : f a = zA cy n d) (t0 : Nat) (ht : tys[t0]? = some (cy, .boolean)) (hi : 0 ≤ i ∧ i < n ∧ i ≤ 2147483647) (hx : x = 0 ∨ x = 1) (hg : va_up f a (zA cy n (zup d i.toNat x)) = g) (hdg : decode cc pc = .ok (.bastore, 1))
    (kk : ∀ (H1 : Heap) (locs1 : List Loc), zW D tys L A s g H0 H1 locs1 → W p l e R s m args below meth c H1 locs1 cells slots Q (F0 m (pc + 1) ls rest)) : W p l e R s m args below meth c H locs cells slots Q (F0 m pc ls (.int (zI x) :: .int (zI i) :: .ref a :: rest)) := by
  have ha := hW.mem hf zJi
  obtain ⟨k0, hk1⟩ := zpl_at (D := D) (f := f) ha
  have hk0 := hk1
  rw [hf] at hk0
  refine va_zast C.1 C.2.1 hW.2.2.2.1 hW.1 hW.2.1 hW.2.2.1 k0 t0 hk0 ht (zI_in hi.1 hi.2.1 hi.2.2) hdg (fun H1 locs1 hP hD hS => kk H1 locs1 ?_)
  have hv : vp_nar .boolean (zI x) = zI x := by rcases hx with rfl | rfl <;> decide
  rw [zI_clamp hi.1 hi.2.2, hv, zup_fn] at hP hD
  exact hW.up ha hk1 hg hP hD hS
theorem zup_fnL (d : Nat → Int) (k : Nat) (x : Int) : vp_updL (fun k => zL (d k)) k (zL x) = fun j => zL (zup d k x j) := by
  funext j
  unfold vp_updL zup
  split <;> rfl
theorem z_last (C : zC p s m args meth c cc nL ret own Ts) (hW : zW D tys L A s f H0 H locs) {cy : ClassId} {n : Nat} {d : Nat → Int} {i x : Int} (hf : f a = zAL cy n d) (t0 : Nat) (ht : tys[t0]? = some (cy, .long)) (hi : 0 ≤ i ∧ i < n ∧ i ≤ 2147483647) (hg : va_up f a (zAL cy n (zup d i.toNat x)) = g) (hdg : decode cc pc = .ok (.lastore, 1))
    (kk : ∀ (H1 : Heap) (locs1 : List Loc), zW D tys L A s g H0 H1 locs1 → W p l e R s m args below meth c H1 locs1 cells slots Q (F0 m (pc + 1) ls rest)) : W p l e R s m args below meth c H locs cells slots Q (F0 m pc ls (.long (zL x) :: .int (zI i) :: .ref a :: rest)) := by
  have ha := hW.mem hf zJi
  obtain ⟨k0, hk1⟩ := zpl_at (D := D) (f := f) ha
  have hk0 := hk1
  rw [hf] at hk0
  refine va_last C.1 C.2.1 hW.2.2.2.1 hW.1 hW.2.1 hW.2.2.1 k0 t0 hk0 ht (zI_in hi.1 hi.2.1 hi.2.2) hdg (fun H1 locs1 hP hD hS => kk H1 locs1 ?_)
  rw [zI_clamp hi.1 hi.2.2, zup_fnL] at hP hD
  exact hW.up ha hk1 hg hP hD hS
theorem z_mmax (C : zC p s m args meth c cc nL ret own Ts) (hW : zW D tys L A s f H0 H locs) (hls : ls.size = nL) {index : Nat} (h1 : (Cond.methodLink own index Lib.Math.max.name).before args s = true) (h2 : (Cond.static Lib.Math.max.name).before args s = true) (h3 : (Cond.initialized "java/lang/Math").before args s = true) (h4 : (Cond.code Lib.Math.max.name Lib.Math.max.code 2 (some .int)).before args s = true)
    (hframes : 1 ≤ R.frames) (hlocals : (rest.map fun v => v.category).sum + 13 ≤ R.locals) (hc : cells ≤ R.cells) (hs : slots ≤ R.slots) {x y z : Int} (hx : -2147483648 ≤ x ∧ x ≤ 2147483647) (hy : -2147483648 ≤ y ∧ y ≤ 2147483647) (hz : max x y = z) (hdg : decode cc pc = .ok (.invokestatic index, 3))
    (kk : W p l e R s m args below meth c H locs cells slots Q (F0 m (pc + 3) ls (.int (zI z) :: rest))) : W p l e R s m args below meth c H locs cells slots Q (F0 m pc ls (.int (zI y) :: .int (zI x) :: rest)) := by
  refine va_mmax C.1 C.2.1 (C.2.2.1.trans hls.symm) C.2.2.2.1 h1 h2 h3 h4 hframes hlocals hc hs hdg ?_
  have e : (if zI x < zI y then zI y else zI x) = zI z := by
    subst hz
    by_cases h : x < y
    · rw [if_pos ((zI_lt hx.1 hx.2 hy.1 hy.2).mpr h)]
      congr 1
      omega
    · rw [if_neg (fun q => h ((zI_lt hx.1 hx.2 hy.1 hy.2).mp q))]
      congr 1
      omega
  rw [e]
  exact kk
theorem z_mmin (C : zC p s m args meth c cc nL ret own Ts) (hW : zW D tys L A s f H0 H locs) (hls : ls.size = nL) {index : Nat} (h1 : (Cond.methodLink own index Lib.Math.min.name).before args s = true) (h2 : (Cond.static Lib.Math.min.name).before args s = true) (h3 : (Cond.initialized "java/lang/Math").before args s = true) (h4 : (Cond.code Lib.Math.min.name Lib.Math.min.code 2 (some .int)).before args s = true)
    (hframes : 1 ≤ R.frames) (hlocals : (rest.map fun v => v.category).sum + 13 ≤ R.locals) (hc : cells ≤ R.cells) (hs : slots ≤ R.slots) {x y z : Int} (hx : -2147483648 ≤ x ∧ x ≤ 2147483647) (hy : -2147483648 ≤ y ∧ y ≤ 2147483647) (hz : min x y = z) (hdg : decode cc pc = .ok (.invokestatic index, 3))
    (kk : W p l e R s m args below meth c H locs cells slots Q (F0 m (pc + 3) ls (.int (zI z) :: rest))) : W p l e R s m args below meth c H locs cells slots Q (F0 m pc ls (.int (zI y) :: .int (zI x) :: rest)) := by
  refine va_mmin C.1 C.2.1 (C.2.2.1.trans hls.symm) C.2.2.2.1 h1 h2 h3 h4 hframes hlocals hc hs hdg ?_
  have e : (if zI y < zI x then zI y else zI x) = zI z := by
    subst hz
    by_cases h : y < x
    · rw [if_pos ((zI_lt hy.1 hy.2 hx.1 hx.2).mpr h)]
      congr 1
      omega
    · rw [if_neg (fun q => h ((zI_lt hy.1 hy.2 hx.1 hx.2).mp q))]
      congr 1
      omega
  rw [e]
  exact kk
theorem zcpy_fn (d q : Nat → Int) (i j n : Nat) : va_cpy (fun k => zI (d k)) (fun k => zI (q k)) i j n = fun k => zI (zcpy d q i j n k) := by
  funext k
  unfold zcpy va_cpy
  split <;> rfl
theorem z_copyi (C : zC p s m args meth c cc nL ret own Ts) (hW : zW D tys L A s f H0 H locs) (hls : ls.size = nL) {index : Nat} (h1 : (Cond.methodLink own index arraycopyName).before args s = true) (h2 : (Cond.native arraycopyName).before args s = true) (h3 : (Cond.static arraycopyName).before args s = true) (h4 : (Cond.initialized "java/lang/System").before args s = true)
    {b : Nat} {cy : ClassId} {n0 n1 : Nat} {d q : Nat → Int} (hf0 : f b = zA cy n0 d) (hf1 : f a = zA cy n1 q) (t0 : Nat) (ht : tys[t0]? = some (cy, .int)) {i j n : Int} (hr : 0 ≤ i ∧ 0 ≤ j ∧ 0 ≤ n ∧ i + n ≤ n0 ∧ j + n ≤ n1 ∧ i + j + n ≤ 2147483647) (hg : va_up f a (zA cy n1 (zcpy d q i.toNat j.toNat n.toNat)) = g)
    (hframes : 1 ≤ R.frames) (hlocals : (rest.map fun v => v.category).sum + (nativeFrameWords "java/lang/System" "arraycopy" 5 + 11) ≤ R.locals) (hdg : decode cc pc = .ok (.invokestatic index, 3))
    (kk : ∀ (H1 : Heap) (locs1 : List Loc), zW D tys L A s g H0 H1 locs1 → W p l e R s m args below meth c H1 locs1 cells slots Q (F0 m (pc + 3) ls rest)) : W p l e R s m args below meth c H locs cells slots Q (F0 m pc ls (.int (zI n) :: .int (zI j) :: .ref a :: .int (zI i) :: .ref b :: rest)) := by
  have ha := hW.mem hf1 zJi
  obtain ⟨k0, hk0⟩ := zpl_at (D := D) (f := f) (hW.mem hf0 zJi)
  obtain ⟨k1, hk2⟩ := zpl_at (D := D) (f := f) ha
  have hk1 := hk2
  rw [hf0] at hk0
  rw [hf1] at hk1
  obtain ⟨r1, r2, r3, r4, r5, r6⟩ := hr
  have e1 := zI_clamp r1 (by omega)
  have e2 := zI_clamp r2 (by omega)
  have e3 := zI_clamp r3 (by omega)
  have nn : ∀ {z : Int}, 0 ≤ z → z ≤ 2147483647 → ¬ zI z < 0 := fun h1 h2 q => by
    rw [show (0 : Int32) = zI 0 from rfl, zI_lt (by omega) h2 (by omega) (by omega)] at q
    omega
  refine va_copyi C.1 C.2.1 (C.2.2.1.trans hls.symm) C.2.2.2.1 h1 h2 h3 h4 hW.2.2.2.1 hW.1 hW.2.1 hW.2.2.1 k0 k1 t0 t0 hk0 hk1 ht ht rfl (nn r1 (by omega)) (nn r2 (by omega)) (nn r3 (by omega)) (by rw [e1, e3]; omega) (by rw [e2, e3]; omega) (fun _ _ => rfl) hframes hlocals hdg (fun H1 locs1 hP hD hS => kk H1 locs1 ?_)
  rw [e1, e2, e3, zcpy_fn] at hP hD
  exact hW.up ha hk2 hg hP hD hS
-- contracts, calls, ends
theorem zNW_w {w : Cond} (h : w ∈ zNW) : w.onTables = true := by
  unfold zNW at h
  rcases List.mem_append.mp h with h | h
  · obtain ⟨q, -, rfl⟩ := List.mem_map.mp h; rfl
  · obtain ⟨q, -, rfl⟩ := List.mem_map.mp h; rfl
theorem zAM.moved {u U : State} (hvm : u.vm.Alike U.vm) (h : zAM u) : zAM U := ⟨Jvm.Stand.arrayOver_alikeB hvm h.1, va_tabs rfl (rfl : (u.setVm U.vm).vm = U.vm) (by rw [Cond.castable_setVm hvm]; exact h.2)⟩
theorem zOK.same {u U : State} (h : zOK u) (hvm : u.vm = U.vm) : zOK U := by
  have ha : u.vm.Alike U.vm := hvm ▸ Vm.Alike.refl u.vm
  exact ⟨fun w hw => va_tabs (zNW_w hw) hvm (h.1 w hw), h.2.1.moved ha, h.2.2.1.moved ha, h.2.2.2.moved ha⟩
theorem zOK.warm {u U : State} (h : zOK u) (hW : u.WarmedH U.vm) : zOK U := by
  refine ⟨?_, h.2.1.moved hW.alike, h.2.2.1.moved hW.alike, h.2.2.2.moved hW.alike⟩
  intro w hw
  have h1 := h.1 w hw
  unfold zNW at hw
  rcases List.mem_append.mp hw with hq | hq
  · obtain ⟨q, -, rfl⟩ := List.mem_map.mp hq; exact va_Nw.warmM hW h1
  · obtain ⟨q, -, rfl⟩ := List.mem_map.mp hq; exact va_Nw.warmF hW h1
/-- what stands at a method's start, and its arguments -/
abbrev zB (D : va_G) (tys : List (ClassId × FieldType)) (L : List Nat) (sz : Nat) (f : Nat → va_E) (as : List Value) : Array Value → State → Prop := va_Pc as (fun U => zS D tys L sz f U ∧ ∀ a, f a ≠ zJ → a ∈ L)
abbrev zE' (D : va_G) (tys : List (ClassId × FieldType)) (L : List Nat) (sz : Nat) (f' : Nat → va_E) (t : State) : Prop := zE D tys L (zQ L sz) f' t ∧ ∀ a, f' a ≠ zJ → a ∈ L
abbrev zRi (D : va_G) (tys : List (ClassId × FieldType)) (L : List Nat) (sz : Nat) (ok : Int → (Nat → va_E) → Prop) : Array Value → State → Outcome → State → Prop := va_Qi (fun r f' => ∃ z, r = zI z ∧ ok z f') (zE' D tys L sz) (zQ L sz)
abbrev zRl (D : va_G) (tys : List (ClassId × FieldType)) (L : List Nat) (sz : Nat) (ok : Int → (Nat → va_E) → Prop) : Array Value → State → Outcome → State → Prop := va_Ql (fun r f' => ∃ z, r = zL z ∧ ok z f') (zE' D tys L sz) (zQ L sz)
abbrev zRv (D : va_G) (tys : List (ClassId × FieldType)) (L : List Nat) (sz : Nat) (ok : (Nat → va_E) → Prop) : Array Value → State → Outcome → State → Prop := va_Qv ok (zE' D tys L sz) (zQ L sz)
abbrev zRr (D : va_G) (tys : List (ClassId × FieldType)) (L : List Nat) (sz : Nat) (ok : Option Nat → (Nat → va_E) → Prop) : Array Value → State → Outcome → State → Prop := va_Qq ok (zE' D tys L sz) (zQ L sz)
/-- contracts that make no cell: a whole number comes back, a long one, none, a reference -/
def zMi (l : Launch) (y : MethodName) (ws : List Cond) (fr lo : Nat) (D : va_G) (tys : List (ClassId × FieldType)) (L : List Nat) (sz : Nat) (f : Nat → va_E) (as : List Value) (ok : Int → (Nat → va_E) → Prop) : Prop := Met l y ws { frames := fr, cells := 0, slots := 0, locals := lo } (zB D tys L sz f as) (zRi D tys L sz ok) 0 0 (zQ L sz)
def zMl (l : Launch) (y : MethodName) (ws : List Cond) (fr lo : Nat) (D : va_G) (tys : List (ClassId × FieldType)) (L : List Nat) (sz : Nat) (f : Nat → va_E) (as : List Value) (ok : Int → (Nat → va_E) → Prop) : Prop := Met l y ws { frames := fr, cells := 0, slots := 0, locals := lo } (zB D tys L sz f as) (zRl D tys L sz ok) 0 0 (zQ L sz)
def zMv (l : Launch) (y : MethodName) (ws : List Cond) (fr lo : Nat) (D : va_G) (tys : List (ClassId × FieldType)) (L : List Nat) (sz : Nat) (f : Nat → va_E) (as : List Value) (ok : (Nat → va_E) → Prop) : Prop := Met l y ws { frames := fr, cells := 0, slots := 0, locals := lo } (zB D tys L sz f as) (zRv D tys L sz ok) 0 0 (zQ L sz)
def zMr (l : Launch) (y : MethodName) (ws : List Cond) (fr lo : Nat) (D : va_G) (tys : List (ClassId × FieldType)) (L : List Nat) (sz : Nat) (f : Nat → va_E) (as : List Value) (ok : Option Nat → (Nat → va_E) → Prop) : Prop := Met l y ws { frames := fr, cells := 0, slots := 0, locals := lo } (zB D tys L sz f as) (zRr D tys L sz ok) 0 0 (zQ L sz)
theorem zB_blind {sz : Nat} {as : List Value} : FrameBlind (zB D tys L sz f as) := fun a U g mk q => by
  obtain ⟨q0, ⟨q1, q2, q3, ⟨q4, q5⟩, q7⟩, q6⟩ := q
  exact ⟨q0, ⟨q1, q2, q3, ⟨va_K.moved (u := U) (U := U.calling g mk a) (Vm.Alike.refl U.vm) q4, zOK.same q5 rfl⟩, zSt.same (u := U) (U := U.calling g mk a) rfl q7⟩, q6⟩
theorem zQ_A (hW : zW D tys L A s f H0 H locs) : ∀ q, zQ L H.size q → A q := by
  intro q hq
  rcases hq with h | h
  · obtain ⟨k, hk⟩ := zpl_at (D := D) (f := f) h
    exact hW.2.1.2 k _ hk
  · exact hW.2.2.2.2.2.1 q (Nat.le_trans hW.2.2.1.1 h)
theorem zW.st (hW : zW D tys L A s f H0 H locs) : zSt D (zQ L H.size) s H := (hW.2.2.2.2.2.2.kept hW.2.2.1.2.1).narrow (zQ_A hW)
theorem zW.start (C : zC p s m args meth c cc nL ret own Ts) (hW : zW D tys L A s f H0 H locs) {U : State} (hU : U.heap = H) (hw : s.WarmedH U.vm) : zS D tys L H.size f U ∧ ∀ a, f a ≠ zJ → a ∈ L := by
  have hst := hW.st.warm hw
  obtain ⟨h1, h2, h3, h4, h5, h6⟩ := hW
  exact ⟨⟨by rw [hU], by rw [hU]; exact h1, h2.weaken (fun _ _ _ _ => trivial), ⟨va_K.moved hw.alike h4, C.2.2.2.2.2.2.2.warm hw⟩, by rw [hU]; exact hst⟩, h5⟩
theorem z_preV (C : zC p s m args meth c cc nL ret own Ts) (hW : zW D tys L A s f H0 H locs) {As : List Value} {ci : Nat} {fs : List Value} {r : vw_C} (hf : f a = .inr (ci, fs)) (hc : vwCl[ci]? = some r) : PreV s H r.1 a (zB D tys L H.size f (.ref a :: As)) As := by
  obtain ⟨k0, hk0⟩ := zpl_at (D := D) (f := f) (hW.mem hf (zJo hc))
  rw [hf] at hk0
  exact ⟨zB_blind, va_recv hW.2.2.2.1 hW.1 hc hk0, fun U hU hw => ⟨rfl, hW.start C hU hw⟩⟩
theorem z_preS (C : zC p s m args meth c cc nL ret own Ts) (hW : zW D tys L A s f H0 H locs) {As : List Value} : PreS s H (zB D tys L H.size f As) As := ⟨zB_blind, fun U hU hw => ⟨rfl, hW.start C hU hw⟩⟩
theorem zW.back (hW : zW D tys L A s f H0 H locs) {H1 : Heap} {locs1 : List Loc} {t : State} (ht : t.heap = H1) (hvm : s.vm.Alike t.vm) (hE : zE' D tys L H.size g t) (hS : va_S A H0 H1 locs1) : zW D tys L A s g H0 H1 locs1 := by
  obtain ⟨⟨e1, e2, e3⟩, e4⟩ := hE
  rw [ht] at e1
  exact ⟨e1, zpl_nd hW.2.1, hS, hW.2.2.2.1, e4, hW.2.2.2.2.2⟩
theorem z_calli {st0 : List Value} {aa : Array Value} {ok : Int → (Nat → va_E) → Prop} (hW : zW D tys L A s f H0 H locs) (hr : va_Run p l e R s m args below meth c H locs cells slots 0 0 (F0 m pc ls st0) rest (zRi D tys L H.size ok aa) (zQ L H.size))
    (kk : ∀ (z : Int) (g : Nat → va_E) (H1 : Heap) (locs1 : List Loc), ok z g → zW D tys L A s g H0 H1 locs1 → W p l e R s m args below meth c H1 locs1 cells slots Q (F0 m (pc + 3) ls (.int (zI z) :: rest))) : W p l e R s m args below meth c H locs cells slots Q (F0 m pc ls st0) :=
  va_calli hr hW.2.2.1 (fun q _ h => zQ_A hW q h) (zQ_A hW) (fun r u t H1 locs1 ht hvm ho hB _ _ hS => by
    obtain ⟨z, rfl, hz⟩ := ho
    exact kk z u H1 locs1 hz (hW.back ht hvm hB hS))
theorem z_calll {st0 : List Value} {aa : Array Value} {ok : Int → (Nat → va_E) → Prop} (hW : zW D tys L A s f H0 H locs) (hr : va_Run p l e R s m args below meth c H locs cells slots 0 0 (F0 m pc ls st0) rest (zRl D tys L H.size ok aa) (zQ L H.size))
    (kk : ∀ (z : Int) (g : Nat → va_E) (H1 : Heap) (locs1 : List Loc), ok z g → zW D tys L A s g H0 H1 locs1 → W p l e R s m args below meth c H1 locs1 cells slots Q (F0 m (pc + 3) ls (.long (zL z) :: rest))) : W p l e R s m args below meth c H locs cells slots Q (F0 m pc ls st0) :=
  va_calll hr hW.2.2.1 (fun q _ h => zQ_A hW q h) (zQ_A hW) (fun r u t H1 locs1 ht hvm ho hB _ _ hS => by
    obtain ⟨z, rfl, hz⟩ := ho
    exact kk z u H1 locs1 hz (hW.back ht hvm hB hS))
theorem z_callv {st0 : List Value} {aa : Array Value} {ok : (Nat → va_E) → Prop} (hW : zW D tys L A s f H0 H locs) (hr : va_Run p l e R s m args below meth c H locs cells slots 0 0 (F0 m pc ls st0) rest (zRv D tys L H.size ok aa) (zQ L H.size))
    (kk : ∀ (g : Nat → va_E) (H1 : Heap) (locs1 : List Loc), ok g → zW D tys L A s g H0 H1 locs1 → W p l e R s m args below meth c H1 locs1 cells slots Q (F0 m (pc + 3) ls rest)) : W p l e R s m args below meth c H locs cells slots Q (F0 m pc ls st0) :=
  va_callv hr hW.2.2.1 (fun q _ h => zQ_A hW q h) (zQ_A hW) (fun u t H1 locs1 ht hvm ho hB _ _ hS => kk u H1 locs1 ho (hW.back ht hvm hB hS))
theorem z_callr {st0 : List Value} {aa : Array Value} {ok : Option Nat → (Nat → va_E) → Prop} (hW : zW D tys L A s f H0 H locs) (hr : va_Run p l e R s m args below meth c H locs cells slots 0 0 (F0 m pc ls st0) rest (zRr D tys L H.size ok aa) (zQ L H.size))
    (kk : ∀ (r : Option Nat) (g : Nat → va_E) (H1 : Heap) (locs1 : List Loc), ok r g → zW D tys L A s g H0 H1 locs1 → W p l e R s m args below meth c H1 locs1 cells slots Q (F0 m (pc + 3) ls (va_rf r :: rest))) : W p l e R s m args below meth c H locs cells slots Q (F0 m pc ls st0) :=
  va_callq hr hW.2.2.1 (fun q _ h => zQ_A hW q h) (zQ_A hW) (fun r u t H1 locs1 ht hvm ho hB _ _ hS => kk r u H1 locs1 ho (hW.back ht hvm hB hS))
theorem zC.fix (C : zC p s m args meth c cc nL ret own Ts) : CallFix p m c cc nL s args Ts own := ⟨C.1, C.2.1, C.2.2.1, C.2.2.2.1, C.2.2.2.2.1⟩
/-- a method's end -/
theorem zE.of {sz : Nat} (hW : zW D tys L (zQ L sz) s g s.heap H locs) {t : State} (ht : t.heap = H) (hw : s.WarmedH t.vm) : zE' D tys L sz g t := ⟨⟨by rw [ht]; exact hW.1, hW.2.1, va_K.moved hw.alike hW.2.2.2.1⟩, hW.2.2.2.2.1⟩
theorem z_iret {sz : Nat} {ty : FieldType} {ok : Int → (Nat → va_E) → Prop} {z : Int} (C : zC p s m args meth c cc nL (some ty) own Ts) (hW : zW D tys L (zQ L sz) s g s.heap H locs) (hok : ok z g) (hn : narrow ty (.int (zI z)) = .int (zI z)) (hdg : decode cc pc = .ok (.ireturn, 1)) : W p l e R s m args below meth c H locs cells slots (MQ below (zRi D tys L sz ok) args s cells slots (zQ L sz)) (F0 m pc ls [.int (zI z)]) :=
  W.zret C.1 C.2.1 C.2.2.2.2.2.2.1 hn (fun t ht hw => ⟨⟨zI z, g, rfl, ⟨z, rfl, hok⟩, zE.of hW ht hw⟩, hW.2.2.1.F ht⟩) hW.2.2.1.2.2 hdg C.2.2.2.2.2.1
theorem z_lret {sz : Nat} {ok : Int → (Nat → va_E) → Prop} {z : Int} (C : zC p s m args meth c cc nL (some .long) own Ts) (hW : zW D tys L (zQ L sz) s g s.heap H locs) (hok : ok z g) (hdg : decode cc pc = .ok (.lreturn, 1)) : W p l e R s m args below meth c H locs cells slots (MQ below (zRl D tys L sz ok) args s cells slots (zQ L sz)) (F0 m pc ls [.long (zL z)]) :=
  W.lret C.1 C.2.1 C.2.2.2.2.2.2.1 (fun t ht hw => ⟨⟨zL z, g, rfl, ⟨z, rfl, hok⟩, zE.of hW ht hw⟩, hW.2.2.1.F ht⟩) hW.2.2.1.2.2 hdg C.2.2.2.2.2.1
theorem z_vret {sz : Nat} {ok : (Nat → va_E) → Prop} (C : zC p s m args meth c cc nL none own Ts) (hW : zW D tys L (zQ L sz) s g s.heap H locs) (hok : ok g) (hdg : decode cc pc = .ok (.return_, 1)) : W p l e R s m args below meth c H locs cells slots (MQ below (zRv D tys L sz ok) args s cells slots (zQ L sz)) (F0 m pc ls []) :=
  W.vret C.1 C.2.1 C.2.2.2.2.2.2.1 (fun t ht hw => ⟨⟨g, rfl, hok, zE.of hW ht hw⟩, hW.2.2.1.F ht⟩) hW.2.2.1.2.2 hdg C.2.2.2.2.2.1
theorem z_aret {sz : Nat} {C0 : String} {ok : Option Nat → (Nat → va_E) → Prop} {r : Option Nat} (C : zC p s m args meth c cc nL (some (.object C0)) own Ts) (hW : zW D tys L (zQ L sz) s g s.heap H locs) (hok : ok r g) (hdg : decode cc pc = .ok (.areturn, 1)) : W p l e R s m args below meth c H locs cells slots (MQ below (zRr D tys L sz ok) args s cells slots (zQ L sz)) (F0 m pc ls [va_rf r]) :=
  W.aret C.1 C.2.1 C.2.2.2.2.2.2.1 (Or.inl ⟨C0, rfl⟩) (va_rf_or r) (fun t ht hw => ⟨⟨r, g, rfl, hok, zE.of hW ht hw⟩, hW.2.2.1.F ht⟩) hW.2.2.1.2.2 hdg C.2.2.2.2.2.1
end ZR
section ZM
variable {l : Launch} {y : MethodName} {D : va_G} {tys : List (ClassId × FieldType)} {L : List Nat} {f : Nat → va_E} {cc : ByteArray} {nL : Nat} {ret : Option FieldType} {Ts ws' : List Cond} {sz : Nat} {as : List Value}
/-- a method's walk, from its entry -/
def zWalk (l : Launch) (y : MethodName) (Ts : List Cond) (rm : Room) (D : va_G) (tys : List (ClassId × FieldType)) (L : List Nat) (sz : Nat) (f : Nat → va_E) (cc : ByteArray) (nL : Nat) (ret : Option FieldType) (as : List Value) (Qc : Array Value → State → Outcome → State → Prop) : Prop :=
  ∀ (p : Program) (e : Env) (s : State) (m : MethodId) (args : Array Value) (below : List Frame) (meth : Method) (c : Code) (ls : Array Slot), zC p s m args meth c cc nL ret y.cls Ts → zW D tys L (zQ L sz) s f s.heap s.heap [] → lv_has ls nL (lv_args 0 as) →
    W p l e rm s m args below meth c s.heap [] 0 0 (MQ below Qc args s 0 0 (zQ L sz)) (F0 m 0 ls [])
theorem zWalk.met {rm : Room} {Qc : Array Value → State → Outcome → State → Prop} (hy : plainName y.cls = true) (hw : Ts = Cond.code y cc nL ret :: ws') (hn : (lg_sl as).length ≤ nL) (h : zWalk l y Ts rm D tys L sz f cc nL ret as Qc) : Met l y Ts rm (zB D tys L sz f as) Qc 0 0 (zQ L sz) := by
  refine Met.ofW (cc := cc) (maxL := nL) (ret := ret) hy hw ?_
  intro p e s m args below meth c s₁ B hml hv
  obtain ⟨rfl, ⟨hsz, hP, hD0, ⟨hK, hO⟩, hT⟩, hJ⟩ := hv
  have hl := lv_entry as (n := nL) hn
  rw [lg_entry_eq]
  subst hsz
  refine h p e s m _ below meth c _ ⟨B.exec, B.bytes, hml, findClass_of_methodNamed B.named, atoms_spec (ws := Ts) B.pre, B.notSynchronized, B.returns, hO⟩ ⟨hP, ⟨hD0.1, fun k q hk => ?_⟩, va_S.rf, hK, hJ, fun q h => Or.inr h, hT⟩ hl
  left
  unfold va_pl at hk
  rw [List.getElem?_map] at hk
  cases hL : L[k]? with
  | none => rw [hL] at hk; cases hk
  | some a =>
    rw [hL] at hk
    cases hk
    exact List.mem_of_getElem? hL
end ZM
