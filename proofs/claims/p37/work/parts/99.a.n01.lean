section ZYa
/-- contracts that make cells, as many as it takes: the pool grows; what is new was no cell before -/
abbrev zEy (D : va_G) (tys : List (ClassId × FieldType)) (L : List Nat) (sz : Nat) (u : List Nat × (Nat → va_E)) (t : State) : Prop := (va_P D vwCl (va_pl u.1 u.2) t.heap ∧ va_D (zQ L sz) (va_pl u.1 u.2) ∧ va_K D vwCl tys t) ∧ ∀ a, u.2 a ≠ zJ → a ∈ u.1
abbrev zYi (D : va_G) (tys : List (ClassId × FieldType)) (L : List Nat) (sz : Nat) (ok : Int → (Nat → va_E) → Prop) : Array Value → State → Outcome → State → Prop := va_Qi (S := List Nat × (Nat → va_E)) (fun r u => ∃ z, r = zI z ∧ ok z u.2) (zEy D tys L sz) (zQ L sz)
abbrev zYv (D : va_G) (tys : List (ClassId × FieldType)) (L : List Nat) (sz : Nat) (ok : (Nat → va_E) → Prop) : Array Value → State → Outcome → State → Prop := va_Qv (S := List Nat × (Nat → va_E)) (fun u => ok u.2) (zEy D tys L sz) (zQ L sz)
abbrev zYr (D : va_G) (tys : List (ClassId × FieldType)) (L : List Nat) (sz : Nat) (ok : Option Nat → (Nat → va_E) → Prop) : Array Value → State → Outcome → State → Prop := va_Qq (S := List Nat × (Nat → va_E)) (fun r u => ok r u.2) (zEy D tys L sz) (zQ L sz)
def zXi (l : Launch) (y : MethodName) (ws : List Cond) (fr lo nc ns : Nat) (D : va_G) (tys : List (ClassId × FieldType)) (L : List Nat) (sz : Nat) (f : Nat → va_E) (as : List Value) (ok : Int → (Nat → va_E) → Prop) : Prop := Met l y ws { frames := fr, cells := nc, slots := ns, locals := lo } (zB D tys L sz f as) (zYi D tys L sz ok) nc ns (zQ L sz)
def zXv (l : Launch) (y : MethodName) (ws : List Cond) (fr lo nc ns : Nat) (D : va_G) (tys : List (ClassId × FieldType)) (L : List Nat) (sz : Nat) (f : Nat → va_E) (as : List Value) (ok : (Nat → va_E) → Prop) : Prop := Met l y ws { frames := fr, cells := nc, slots := ns, locals := lo } (zB D tys L sz f as) (zYv D tys L sz ok) nc ns (zQ L sz)
def zXr (l : Launch) (y : MethodName) (ws : List Cond) (fr lo nc ns : Nat) (D : va_G) (tys : List (ClassId × FieldType)) (L : List Nat) (sz : Nat) (f : Nat → va_E) (as : List Value) (ok : Option Nat → (Nat → va_E) → Prop) : Prop := Met l y ws { frames := fr, cells := nc, slots := ns, locals := lo } (zB D tys L sz f as) (zYr D tys L sz ok) nc ns (zQ L sz)
/-- a constructor's contract, seen so -/
theorem zMn.my {l : Launch} {y : MethodName} {ws : List Cond} {fr lo nc ns : Nat} {D : va_G} {tys : List (ClassId × FieldType)} {L : List Nat} {sz : Nat} {f : Nat → va_E} {as : List Value} {ok : (Nat → va_E) → Prop} (h : zMn l y ws fr lo nc ns D tys L sz f as ok) : zXv l y ws fr lo nc ns D tys L sz f as ok := by
  intro p e ha hc hk s m args below hf happ hP hK
  obtain ⟨n, o, h1, h2, h3, ⟨⟨g, hv, hp, hE1, hE2, hE3⟩, hFr⟩, hL⟩ := h p e ha hc hk s m args below hf happ hP hK
  exact ⟨n, o, h1, h2, h3, ⟨⟨(L ++ List.range' sz nc, g), hv, hp, hE1, hE2⟩, hFr⟩, hL⟩
section ZYr
variable {p : Program} {l : Launch} {e : Env} {R : Room} {s : State} {m : MethodId} {args : Array Value} {below : List Frame} {meth : Method} {c : Code} {H : Heap} {locs : List Loc} {cells slots : Nat} {Q : State → Prop}
variable {cc : ByteArray} {nL pc : Nat} {ret : Option FieldType} {own : String} {Ts : List Cond} {ls : Array Slot} {rest : List Value} {D : va_G} {tys : List (ClassId × FieldType)} {L : List Nat} {A : Nat → Prop} {f g : Nat → va_E} {H0 : Heap} {a : Nat}
theorem zW.backy (hW : zW D tys L A s f H0 H locs) {u : List Nat × (Nat → va_E)} {H1 : Heap} {locs1 : List Loc} {t : State} (ht : t.heap = H1) (hE : zEy D tys L H.size u t) (hS : va_S A H0 H1 locs1) : zW D tys u.1 A s u.2 H0 H1 locs1 := by
  obtain ⟨⟨e1, e2, e3⟩, e4⟩ := hE
  rw [ht] at e1
  exact ⟨e1, e2.weaken (fun _ q _ h => zQ_A hW q.1 h), hS, hW.2.2.2.1, e4, hW.2.2.2.2.2⟩
theorem zy_calli {st0 : List Value} {aa : Array Value} {nc ns : Nat} {ok : Int → (Nat → va_E) → Prop} (hW : zW D tys L A s f H0 H locs) (hr : va_Run p l e R s m args below meth c H locs cells slots nc ns (F0 m pc ls st0) rest (zYi D tys L H.size ok aa) (zQ L H.size))
    (kk : ∀ (z : Int) (Lx : List Nat) (g : Nat → va_E) (H1 : Heap) (locs1 : List Loc), ok z g → zW D tys Lx A s g H0 H1 locs1 → W p l e R s m args below meth c H1 locs1 (cells + nc) (slots + ns) Q (F0 m (pc + 3) ls (.int (zI z) :: rest))) : W p l e R s m args below meth c H locs cells slots Q (F0 m pc ls st0) :=
  va_calli hr hW.2.2.1 (fun q _ h => zQ_A hW q h) (zQ_A hW) (fun r u t H1 locs1 ht hvm ho hB _ _ hS => by
    obtain ⟨z, rfl, hz⟩ := ho
    exact kk z u.1 u.2 H1 locs1 hz (hW.backy ht hB hS))
theorem zy_callv {st0 : List Value} {aa : Array Value} {nc ns : Nat} {ok : (Nat → va_E) → Prop} (hW : zW D tys L A s f H0 H locs) (hr : va_Run p l e R s m args below meth c H locs cells slots nc ns (F0 m pc ls st0) rest (zYv D tys L H.size ok aa) (zQ L H.size))
    (kk : ∀ (Lx : List Nat) (g : Nat → va_E) (H1 : Heap) (locs1 : List Loc), ok g → zW D tys Lx A s g H0 H1 locs1 → W p l e R s m args below meth c H1 locs1 (cells + nc) (slots + ns) Q (F0 m (pc + 3) ls rest)) : W p l e R s m args below meth c H locs cells slots Q (F0 m pc ls st0) :=
  va_callv hr hW.2.2.1 (fun q _ h => zQ_A hW q h) (zQ_A hW) (fun u t H1 locs1 ht hvm ho hB _ _ hS => kk u.1 u.2 H1 locs1 ho (hW.backy ht hB hS))
theorem zy_callr {st0 : List Value} {aa : Array Value} {nc ns : Nat} {ok : Option Nat → (Nat → va_E) → Prop} (hW : zW D tys L A s f H0 H locs) (hr : va_Run p l e R s m args below meth c H locs cells slots nc ns (F0 m pc ls st0) rest (zYr D tys L H.size ok aa) (zQ L H.size))
    (kk : ∀ (r : Option Nat) (Lx : List Nat) (g : Nat → va_E) (H1 : Heap) (locs1 : List Loc), ok r g → zW D tys Lx A s g H0 H1 locs1 → W p l e R s m args below meth c H1 locs1 (cells + nc) (slots + ns) Q (F0 m (pc + 3) ls (va_rf r :: rest))) : W p l e R s m args below meth c H locs cells slots Q (F0 m pc ls st0) :=
  va_callq hr hW.2.2.1 (fun q _ h => zQ_A hW q h) (zQ_A hW) (fun r u t H1 locs1 ht hvm ho hB _ _ hS => kk r u.1 u.2 H1 locs1 ho (hW.backy ht hB hS))
/-- a method's end -/
theorem zEy.of {sz : Nat} {Lx : List Nat} (hW : zW D tys Lx (zQ L sz) s g s.heap H locs) {t : State} (ht : t.heap = H) (hw : s.WarmedH t.vm) : zEy D tys L sz (Lx, g) t := ⟨⟨by rw [ht]; exact hW.1, hW.2.1, va_K.moved hw.alike hW.2.2.2.1⟩, hW.2.2.2.2.1⟩
theorem zy_iret {sz : Nat} {Lx : List Nat} {ty : FieldType} {ok : Int → (Nat → va_E) → Prop} {z : Int} (C : zC p s m args meth c cc nL (some ty) own Ts) (hW : zW D tys Lx (zQ L sz) s g s.heap H locs) (hok : ok z g) (hn : narrow ty (.int (zI z)) = .int (zI z)) (hdg : decode cc pc = .ok (.ireturn, 1)) : W p l e R s m args below meth c H locs cells slots (MQ below (zYi D tys L sz ok) args s cells slots (zQ L sz)) (F0 m pc ls [.int (zI z)]) :=
  W.zret C.1 C.2.1 C.2.2.2.2.2.2.1 hn (fun t ht hw => ⟨⟨zI z, (Lx, g), rfl, ⟨z, rfl, hok⟩, zEy.of hW ht hw⟩, hW.2.2.1.F ht⟩) hW.2.2.1.2.2 hdg C.2.2.2.2.2.1
theorem zy_vret {sz : Nat} {Lx : List Nat} {ok : (Nat → va_E) → Prop} (C : zC p s m args meth c cc nL none own Ts) (hW : zW D tys Lx (zQ L sz) s g s.heap H locs) (hok : ok g) (hdg : decode cc pc = .ok (.return_, 1)) : W p l e R s m args below meth c H locs cells slots (MQ below (zYv D tys L sz ok) args s cells slots (zQ L sz)) (F0 m pc ls []) :=
  W.vret C.1 C.2.1 C.2.2.2.2.2.2.1 (fun t ht hw => ⟨⟨(Lx, g), rfl, hok, zEy.of hW ht hw⟩, hW.2.2.1.F ht⟩) hW.2.2.1.2.2 hdg C.2.2.2.2.2.1
theorem zy_aret {sz : Nat} {Lx : List Nat} {ty : FieldType} {ok : Option Nat → (Nat → va_E) → Prop} {r : Option Nat} (hty : (∃ C0, ty = .object C0) ∨ ∃ t0, ty = .array t0) (C : zC p s m args meth c cc nL (some ty) own Ts) (hW : zW D tys Lx (zQ L sz) s g s.heap H locs) (hok : ok r g) (hdg : decode cc pc = .ok (.areturn, 1)) : W p l e R s m args below meth c H locs cells slots (MQ below (zYr D tys L sz ok) args s cells slots (zQ L sz)) (F0 m pc ls [va_rf r]) :=
  W.aret C.1 C.2.1 C.2.2.2.2.2.2.1 hty (va_rf_or r) (fun t ht hw => ⟨⟨r, (Lx, g), rfl, hok, zEy.of hW ht hw⟩, hW.2.2.1.F ht⟩) hW.2.2.1.2.2 hdg C.2.2.2.2.2.1
/-- the same for a method that makes no cell and gives an array back -/
theorem z_aretA {sz : Nat} {ty : FieldType} {ok : Option Nat → (Nat → va_E) → Prop} {r : Option Nat} (hty : (∃ C0, ty = .object C0) ∨ ∃ t0, ty = .array t0) (C : zC p s m args meth c cc nL (some ty) own Ts) (hW : zW D tys L (zQ L sz) s g s.heap H locs) (hok : ok r g) (hdg : decode cc pc = .ok (.areturn, 1)) : W p l e R s m args below meth c H locs cells slots (MQ below (zRr D tys L sz ok) args s cells slots (zQ L sz)) (F0 m pc ls [va_rf r]) :=
  W.aret C.1 C.2.1 C.2.2.2.2.2.2.1 hty (va_rf_or r) (fun t ht hw => ⟨⟨r, g, rfl, hok, zE.of hW ht hw⟩, hW.2.2.1.F ht⟩) hW.2.2.1.2.2 hdg C.2.2.2.2.2.1
/-- what is new was no cell -/
theorem zW.fresh (hW : zW D tys L A s f H0 H locs) : f H.size = zJ := Classical.byContradiction fun h => by
  obtain ⟨k, hk⟩ := zpl_at (D := D) (f := f) (hW.2.2.2.2.1 _ h)
  have := (hW.1 k _ hk).lt
  exact absurd this (Nat.lt_irrefl _)
theorem zN.world {sz k0 : Nat} (h : zN D tys L A s f H0 H locs sz k0) : zW D tys (L ++ List.range' sz k0) A s f H0 H locs := h.1
theorem zy_new (C : zC p s m args meth c cc nL ret own Ts) (hW : zW D tys L A s f H0 H locs) {Cn : String} {T : u_T} {N ci index : Nat} {fs : List Value} (hin : ∀ w ∈ u_ws Cn T N, w ∈ Ts) (ty : Nat → FieldType) (hty : ∀ k, k < N → parseFieldDescriptor (T k).2.2.1 = some (ty k)) (hcl : Cond.classLink own index Cn ∈ Ts) (hinst : Cond.instantiable Cn N ∈ Ts) (hini : Cond.initialized Cn ∈ Ts) (hc : vwCl[ci]? = some (Cn, T, N)) (hfs : ∀ j, j < N → defaultValue (ty j) = vp_V fs j) (hcells : cells + 1 ≤ R.cells) (hslots : slots + N ≤ R.slots) (hdg : decode cc pc = .ok (.new index, 3))
    (kk : ∀ (q : Nat) (Lx : List Nat) (H1 : Heap), f q = zJ → zW D tys Lx A s (va_up f q (.inr (ci, fs))) H0 H1 locs → W p l e R s m args below meth c H1 locs (cells + 1) (slots + N) Q (F0 m (pc + 3) ls (.ref q :: rest))) : W p l e R s m args below meth c H locs cells slots Q (F0 m pc ls rest) :=
  zn_new C (zN.start hW rfl) hin ty hty hcl hinst hini hc hfs hcells hslots hdg (fun H1 hN => kk _ _ H1 hW.fresh hN.world)
theorem zy_newa (C : zC p s m args meth c cc nL ret own Ts) (hW : zW D tys L A s f H0 H locs) {atype : ArrayType} {ty : FieldType} (hty : newarray.typeOf atype = ty) (harr : Cond.arrayClass (newarray.typeOf atype) ∈ Ts) (t0 : Nat) {cy : ClassId} (ht : tys[t0]? = some (cy, ty)) {n : Int} {N' : Nat} {a0 : vp_A} (ha : ∀ cA : ClassId, vp_cell cA a0 = arrV cA N' (fun _ => defaultValue ty)) (hn0 : 0 ≤ n) (hN' : n = N') (hbytes : N' * componentBytes ty ≤ 536870912) (hn1 : N' ≤ 2147483647) (hcells : cells + 1 ≤ R.cells) (hslots : slots + N' ≤ R.slots) (hdg : decode cc pc = .ok (.newarray atype, 2))
    (kk : ∀ (q : Nat) (Lx : List Nat) (H1 : Heap), f q = zJ → zW D tys Lx A s (va_up f q (.inl (cy, a0))) H0 H1 locs → W p l e R s m args below meth c H1 locs (cells + 1) (slots + N') Q (F0 m (pc + 2) ls (.ref q :: rest))) : W p l e R s m args below meth c H locs cells slots Q (F0 m pc ls (.int (zI n) :: rest)) :=
  zn_newa C (zN.start hW rfl) hty harr t0 ht ha hn0 hN' hbytes hn1 hcells hslots hdg (fun H1 hN => kk _ _ H1 hW.fresh hN.world)
theorem zn_haB {N : Nat} (cA : ClassId) : vp_cell cA (N, .inl (fun k => zI (zone 0 k))) = arrV cA N (fun _ => defaultValue .byte) := by
  rw [vp_cell_i]
  show arrV cA N (fun j => Value.int ((fun k => zI (zone 0 k)) j)) = _
  rw [zone0]
  rfl
-- bytes
theorem zI_byte {z : Int} (h : -128 ≤ z ∧ z ≤ 127) : (zI z).toInt8.toInt32 = zI z := by
  apply Int32.toInt_inj.mp
  rw [Int8.toInt_toInt32, Int32.toInt_toInt8, zI_toInt (by omega) (by omega)]
  show z.bmod 256 = z
  unfold Int.bmod
  dsimp only
  split <;> omega
theorem zI_narB {z : Int} (h : -128 ≤ z ∧ z ≤ 127) : narrow .byte (.int (zI z)) = .int (zI z) := by
  show Value.int (zI z).toInt8.toInt32 = _
  rw [zI_byte h]
theorem zI_fitB {z : Int} (h : -128 ≤ z ∧ z ≤ 127) : fits .byte (.int (zI z)) = true := by
  have := pk_fb (zI z)
  rwa [zI_byte h] at this
theorem z_bald (C : zC p s m args meth c cc nL ret own Ts) (hW : zW D tys L A s f H0 H locs) {cy : ClassId} {n : Nat} {d : Nat → Int} {i z : Int} (hf : f a = zA cy n d) (t0 : Nat) (ht : tys[t0]? = some (cy, .byte)) (hi : 0 ≤ i ∧ i < n ∧ i ≤ 2147483647) (hz : d i.toNat = z) (hdg : decode cc pc = .ok (.baload, 1))
    (kk : W p l e R s m args below meth c H locs cells slots Q (F0 m (pc + 1) ls (.int (zI z) :: rest))) : W p l e R s m args below meth c H locs cells slots Q (F0 m pc ls (.int (zI i) :: .ref a :: rest)) := by
  obtain ⟨k0, hk0⟩ := zpl_at (D := D) (f := f) (hW.mem hf zJi)
  rw [hf] at hk0
  refine va_bald C.1 C.2.1 hW.2.2.2.1 hW.1 k0 t0 hk0 ht (zI_in hi.1 hi.2.1 hi.2.2) hdg ?_
  rw [zI_clamp hi.1 hi.2.2]
  subst hz
  exact kk
theorem z_bast (C : zC p s m args meth c cc nL ret own Ts) (hW : zW D tys L A s f H0 H locs) {cy : ClassId} {n : Nat} {d : Nat → Int} {i x : Int} (hf : f a = zA cy n d) (t0 : Nat) (ht : tys[t0]? = some (cy, .byte)) (hi : 0 ≤ i ∧ i < n ∧ i ≤ 2147483647) (hx : -128 ≤ x ∧ x ≤ 127) (hg : va_up f a (zA cy n (zup d i.toNat x)) = g) (hdg : decode cc pc = .ok (.bastore, 1))
    (kk : ∀ (H1 : Heap) (locs1 : List Loc), zW D tys L A s g H0 H1 locs1 → W p l e R s m args below meth c H1 locs1 cells slots Q (F0 m (pc + 1) ls rest)) : W p l e R s m args below meth c H locs cells slots Q (F0 m pc ls (.int (zI x) :: .int (zI i) :: .ref a :: rest)) := by
  have ha := hW.mem hf zJi
  obtain ⟨k0, hk1⟩ := zpl_at (D := D) (f := f) ha
  have hk0 := hk1
  rw [hf] at hk0
  refine va_bast C.1 C.2.1 hW.2.2.2.1 hW.1 hW.2.1 hW.2.2.1 k0 t0 hk0 ht (zI_in hi.1 hi.2.1 hi.2.2) hdg (fun H1 locs1 hP hD hS => kk H1 locs1 ?_)
  have hv : vp_nar .byte (zI x) = zI x := by rw [vp_nar_byte, zI_byte hx]
  rw [zI_clamp hi.1 hi.2.2, hv, zup_fn] at hP hD
  exact hW.up ha hk1 hg hP hD hS
theorem z_copyb (C : zC p s m args meth c cc nL ret own Ts) (hW : zW D tys L A s f H0 H locs) (hls : ls.size = nL) {index : Nat} (h1 : (Cond.methodLink own index arraycopyName).before args s = true) (h2 : (Cond.native arraycopyName).before args s = true) (h3 : (Cond.static arraycopyName).before args s = true) (h4 : (Cond.initialized "java/lang/System").before args s = true)
    {b : Nat} {cy : ClassId} {n0 n1 : Nat} {d q : Nat → Int} (hf0 : f b = zA cy n0 d) (hf1 : f a = zA cy n1 q) (t0 : Nat) (ht : tys[t0]? = some (cy, .byte)) (hd : ∀ k, -128 ≤ d k ∧ d k ≤ 127) {i j n : Int} (hr : 0 ≤ i ∧ 0 ≤ j ∧ 0 ≤ n ∧ i + n ≤ n0 ∧ j + n ≤ n1 ∧ i + j + n ≤ 2147483647) (hg : va_up f a (zA cy n1 (zcpy d q i.toNat j.toNat n.toNat)) = g)
    (hframes : 1 ≤ R.frames) (hlocals : (rest.map fun v => v.category).sum + (nativeFrameWords "java/lang/System" "arraycopy" 5 + 11) ≤ R.locals) (hdg : decode cc pc = .ok (.invokestatic index, 3))
    (kk : ∀ (H1 : Heap) (locs1 : List Loc), zW D tys L A s g H0 H1 locs1 → W p l e R s m args below meth c H1 locs1 cells slots Q (F0 m (pc + 3) ls rest)) : W p l e R s m args below meth c H locs cells slots Q (F0 m pc ls (.int (zI n) :: .int (zI j) :: .ref a :: .int (zI i) :: .ref b :: rest)) := by
  have ha := hW.mem hf1 zJi
  obtain ⟨k0, hk0⟩ := zpl_at (D := D) (f := f) (hW.mem hf0 zJi)
  obtain ⟨k1, hk2⟩ := zpl_at (D := D) (f := f) ha
  have hk1 := hk2
  rw [hf0] at hk0
  rw [hf1] at hk1
  obtain ⟨r1, r2, r3, r4, r5, r6⟩ := hr
  have e1 := zI_clamp r1 (by omega)
  have e2 := zI_clamp r2 (by omega)
  have e3 := zI_clamp r3 (by omega)
  have nn : ∀ {z : Int}, 0 ≤ z → z ≤ 2147483647 → ¬ zI z < 0 := fun h1 h2 q => by
    rw [show (0 : Int32) = zI 0 from rfl, zI_lt (by omega) h2 (by omega) (by omega)] at q
    omega
  refine va_copyi C.1 C.2.1 (C.2.2.1.trans hls.symm) C.2.2.2.1 h1 h2 h3 h4 hW.2.2.2.1 hW.1 hW.2.1 hW.2.2.1 k0 k1 t0 t0 hk0 hk1 ht ht rfl (nn r1 (by omega)) (nn r2 (by omega)) (nn r3 (by omega)) (by rw [e1, e3]; omega) (by rw [e2, e3]; omega) (fun _ _ => zI_fitB (hd _)) hframes hlocals hdg (fun H1 locs1 hP hD hS => kk H1 locs1 ?_)
  rw [e1, e2, e3, zcpy_fn] at hP hD
  exact hW.up ha hk2 hg hP hD hS
theorem z_copyt (C : zC p s m args meth c cc nL ret own Ts) (hW : zW D tys L A s f s.heap H locs) (hls : ls.size = nL) {index : Nat} (h1 : (Cond.methodLink own index arraycopyName).before args s = true) (h2 : (Cond.native arraycopyName).before args s = true) (h3 : (Cond.static arraycopyName).before args s = true) (h4 : (Cond.initialized "java/lang/System").before args s = true)
    {b n0 : Nat} {d0 : Nat → Int32} {d : Nat → Int} (hX : va_T .byte b n0 (fun j => .int (d0 j)) A s s.heap) (hd0 : ∀ k, d0 k = zI (d k)) {cy : ClassId} {n1 : Nat} {q : Nat → Int} (hf1 : f a = zA cy n1 q) (t0 : Nat) (ht : tys[t0]? = some (cy, .byte)) (hd : ∀ k, k < n0 → -128 ≤ d k ∧ d k ≤ 127) {i j n : Int} (hr : 0 ≤ i ∧ 0 ≤ j ∧ 0 ≤ n ∧ i + n ≤ n0 ∧ j + n ≤ n1 ∧ i + j + n ≤ 2147483647) (hg : va_up f a (zA cy n1 (zcpy d q i.toNat j.toNat n.toNat)) = g)
    (hframes : 1 ≤ R.frames) (hlocals : (rest.map fun v => v.category).sum + (nativeFrameWords "java/lang/System" "arraycopy" 5 + 11) ≤ R.locals) (hdg : decode cc pc = .ok (.invokestatic index, 3))
    (kk : ∀ (H1 : Heap) (locs1 : List Loc), zW D tys L A s g s.heap H1 locs1 → W p l e R s m args below meth c H1 locs1 cells slots Q (F0 m (pc + 3) ls rest)) : W p l e R s m args below meth c H locs cells slots Q (F0 m pc ls (.int (zI n) :: .int (zI j) :: .ref a :: .int (zI i) :: .ref b :: rest)) := by
  have ha := hW.mem hf1 zJi
  obtain ⟨k1, hk2⟩ := zpl_at (D := D) (f := f) ha
  have hk1 := hk2
  rw [hf1] at hk1
  obtain ⟨r1, r2, r3, r4, r5, r6⟩ := hr
  have e1 := zI_clamp r1 (by omega)
  have e2 := zI_clamp r2 (by omega)
  have e3 := zI_clamp r3 (by omega)
  have nn : ∀ {z : Int}, 0 ≤ z → z ≤ 2147483647 → ¬ zI z < 0 := fun h1 h2 q => by
    rw [show (0 : Int32) = zI 0 from rfl, zI_lt (by omega) h2 (by omega) (by omega)] at q
    omega
  have ed : d0 = fun k => zI (d k) := funext hd0
  subst ed
  refine vk_copyt C.1 C.2.1 (C.2.2.1.trans hls.symm) C.2.2.2.1 h1 h2 h3 h4 hW.2.2.2.1 hW.1 hW.2.1 hW.2.2.1 hX k1 t0 hk1 ht (nn r1 (by omega)) (nn r2 (by omega)) (nn r3 (by omega)) (by rw [e1, e3]; omega) (by rw [e2, e3]; omega) (fun k hk => zI_fitB (hd _ (by rw [e1]; rw [e3] at hk; omega))) hframes hlocals hdg (fun H1 locs1 hP hD hS => kk H1 locs1 ?_)
  rw [e1, e2, e3, zcpy_fn] at hP hD
  exact hW.up ha hk2 hg hP hD hS
end ZYr
end ZYa
