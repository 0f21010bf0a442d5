section ZAl
/-- the world of a method that makes cells: k of them so far, at sz and on -/
def zN (D : va_G) (tys : List (ClassId × FieldType)) (L0 : List Nat) (A : Nat → Prop) (s : State) (f : Nat → va_E) (H0 H : Heap) (locs : List Loc) (sz k : Nat) : Prop :=
  zW D tys (L0 ++ List.range' sz k) A s f H0 H locs ∧ H.size = sz + k
theorem zN.start {D : va_G} {tys : List (ClassId × FieldType)} {L : List Nat} {A : Nat → Prop} {s : State} {f : Nat → va_E} {H0 H : Heap} {locs : List Loc} {sz : Nat} (h : zW D tys L A s f H0 H locs) (hs : H.size = sz) : zN D tys L A s f H0 H locs sz 0 := ⟨by rw [List.range'_zero, List.append_nil]; exact h, hs⟩
theorem zrange (L : List Nat) (sz k : Nat) : (L ++ List.range' sz k) ++ [sz + k] = L ++ List.range' sz (k + 1) := by
  rw [List.append_assoc, List.range'_concat, Nat.one_mul]
theorem zrange2 (L : List Nat) (sz k n : Nat) : (L ++ List.range' sz k) ++ List.range' (sz + k) n = L ++ List.range' sz (k + n) := by
  rw [List.append_assoc, List.range'_append_1]
section ZAr
variable {p : Program} {l : Launch} {e : Env} {R : Room} {s : State} {m : MethodId} {args : Array Value} {below : List Frame} {meth : Method} {c : Code} {H : Heap} {locs : List Loc} {cells slots : Nat} {Q : State → Prop}
variable {cc : ByteArray} {nL pc : Nat} {ret : Option FieldType} {own : String} {Ts : List Cond} {ls : Array Slot} {rest : List Value} {D : va_G} {tys : List (ClassId × FieldType)} {L : List Nat} {A : Nat → Prop} {f g : Nat → va_E} {H0 : Heap} {a sz k0 : Nat}
/-- one cell more, at the heap's end -/
theorem zN.push (h : zN D tys L A s f H0 H locs sz k0) {H1 : Heap} {x : va_E} (o1 : ∀ q : Nat, q < H.size → H1[q]? = H[q]?) (hz : H1.size = H.size + 1) (hx : va_at D vwCl (sz + k0, x) H1) : zN D tys L A s (va_up f (sz + k0) x) H0 H1 locs sz (k0 + 1) := by
  obtain ⟨⟨h1, h2, h3, h4, h5, h6⟩, hs⟩ := h
  have hfr : sz + k0 ∉ L ++ List.range' sz k0 := fun hm => by
    obtain ⟨k, hk⟩ := zpl_at (D := D) (f := f) hm
    have := (h1 k _ hk).lt
    have h9 : sz + k0 < H.size := this
    omega
  have hk : ∀ (k : Nat) (q : Nat × va_E), (va_pl (L ++ List.range' sz k0) f)[k]? = some q → H1[q.1]? = H[q.1]? := fun k q hq => o1 q.1 ((h1 k q hq).lt)
  have e : va_pl (L ++ List.range' sz k0) f ++ [(sz + k0, x)] = va_pl (L ++ List.range' sz (k0 + 1)) (va_up f (sz + k0) x) := by
    rw [va_pl_push hfr, zrange]
  refine ⟨⟨?_, ?_, ⟨Nat.le_trans h3.1 (by omega), fun q q1 q2 => (o1 q (Nat.lt_of_lt_of_le q1 h3.1)).trans (h3.2.1 q q1 q2), h3.2.2⟩, h4, fun b hb => ?_, h6⟩, by omega⟩
  · rw [← e]
    refine (h1.kept hk).app (fun k q hq => ?_)
    have hz : k < 1 := (List.getElem?_eq_some_iff.mp hq).1
    rw [show k = 0 by omega] at hq
    cases hq
    exact hx
  · rw [← e]
    exact va_D.push h2 h1 hs.symm (h6.1 _ (by have := h3.1; omega))
  · rw [← zrange]
    by_cases hb2 : b = sz + k0
    · rw [hb2]; simp
    · rw [va_up_ne _ _ hb2] at hb
      exact List.mem_append_left _ (h5 b hb)
theorem zn_new (C : zC p s m args meth c cc nL ret own Ts) (hN : zN D tys L A s f H0 H locs sz k0) {Cn : String} {T : u_T} {N ci index : Nat} {fs : List Value} (hin : ∀ w ∈ u_ws Cn T N, w ∈ Ts) (ty : Nat → FieldType) (hty : ∀ k, k < N → parseFieldDescriptor (T k).2.2.1 = some (ty k)) (hcl : Cond.classLink own index Cn ∈ Ts) (hinst : Cond.instantiable Cn N ∈ Ts) (hini : Cond.initialized Cn ∈ Ts) (hc : vwCl[ci]? = some (Cn, T, N)) (hfs : ∀ j, j < N → defaultValue (ty j) = vp_V fs j) (hcells : cells + 1 ≤ R.cells) (hslots : slots + N ≤ R.slots) (hdg : decode cc pc = .ok (.new index, 3))
    (kk : ∀ (H1 : Heap), zN D tys L A s (va_up f (sz + k0) (.inr (ci, fs))) H0 H1 locs sz (k0 + 1) → W p l e R s m args below meth c H1 locs (cells + 1) (slots + N) Q (F0 m (pc + 3) ls (.ref (sz + k0) :: rest))) : W p l e R s m args below meth c H locs cells slots Q (F0 m pc ls rest) := by
  have hKn := hN.1.2.2.2.1.1 ci _ hc
  refine W.newcK C.1 C.2.1 C.2.2.2.1 (C.at hcl) (C.at hinst) (C.at hini) rfl hdg hcells hslots hKn.2.1 hN.2 fun H1 kC hkC e1 z1 o1 => ?_
  exact kk H1 (hN.push (fun q hq => o1 q (by rw [hN.2] at hq; exact hq)) (by rw [hN.2]; exact z1) ⟨_, hc, (u_born ty C.2.2.2.2.1 hin hKn hkC e1 hty).to hfs⟩)
theorem zn_newa (C : zC p s m args meth c cc nL ret own Ts) (hN : zN D tys L A s f H0 H locs sz k0) {atype : ArrayType} {ty : FieldType} (hty : newarray.typeOf atype = ty) (harr : Cond.arrayClass (newarray.typeOf atype) ∈ Ts) (t0 : Nat) {cy : ClassId} (ht : tys[t0]? = some (cy, ty)) {n : Int} {N' : Nat} {a0 : vp_A} (ha : ∀ cA : ClassId, vp_cell cA a0 = arrV cA N' (fun _ => defaultValue ty)) (hn0 : 0 ≤ n) (hN' : n = N') (hbytes : N' * componentBytes ty ≤ 536870912) (hn1 : N' ≤ 2147483647) (hcells : cells + 1 ≤ R.cells) (hslots : slots + N' ≤ R.slots) (hdg : decode cc pc = .ok (.newarray atype, 2))
    (kk : ∀ (H1 : Heap), zN D tys L A s (va_up f (sz + k0) (.inl (cy, a0))) H0 H1 locs sz (k0 + 1) → W p l e R s m args below meth c H1 locs (cells + 1) (slots + N') Q (F0 m (pc + 2) ls (.ref (sz + k0) :: rest))) : W p l e R s m args below meth c H locs cells slots Q (F0 m pc ls (.int (zI n) :: rest)) := by
  subst hty
  subst hN'
  refine va_newaK (N := N') C.1 C.2.1 (C.at harr) rfl hdg rfl ?_ ?_ hbytes hcells hslots hN.2 fun H1 cA e1 z1 o1 hAr hNm => ?_
  · intro q
    rw [show (0 : Int32) = zI 0 from rfl, zI_lt (by omega) (by omega) (by omega) (by omega)] at q
    omega
  · rw [zI_clamp hn0 (by omega)]
    exact Int.toNat_natCast N'
  · have hra := (hN.1.2.2.2.1.2 t0 _ ht).2
    have hcy : cA = cy := by
      have h9 : s.vm.findClass ("[" ++ (newarray.typeOf atype).toString) = some cy := by cases atype <;> exact hra
      exact Option.some.inj (hNm.symm.trans h9)
    subst hcy
    refine kk H1 (hN.push (fun q hq => o1 q (by rw [hN.2] at hq; exact hq)) (by rw [hN.2]; exact z1) ?_)
    show H1[sz + k0]? = some (vp_cell _ _)
    rw [ha]
    exact e1
theorem zn_newq (C : zC p s m args meth c cc nL ret own Ts) (hN : zN D tys L A s f H0 H locs sz k0) {Cn : String} {index : Nat} (hcl : Cond.classLink own index Cn ∈ Ts) (hov : va_AO Cn s) (t0 : Nat) {cy : ClassId} (ht : tys[t0]? = some (cy, .object Cn)) {n : Int} {N' : Nat} (hn0 : 0 ≤ n) (hN' : n = N') (hbytes : N' * 4 ≤ 536870912) (hcells : cells + 1 ≤ R.cells) (hslots : slots + N' ≤ R.slots) (hdg : decode cc pc = .ok (.anewarray index, 3))
    (kk : ∀ (H1 : Heap), zN D tys L A s (va_up f (sz + k0) (zAR cy N' (fun _ => none))) H0 H1 locs sz (k0 + 1) → W p l e R s m args below meth c H1 locs (cells + 1) (slots + N') Q (F0 m (pc + 3) ls (.ref (sz + k0) :: rest))) : W p l e R s m args below meth c H locs cells slots Q (F0 m pc ls (.int (zI n) :: rest)) := by
  subst hN'
  have hcl0 : (zI (N' : Int)).toNatClampNeg = N' := by
    rw [zI_clamp hn0 (by omega)]
    exact Int.toNat_natCast N'
  refine W.anew C.1 C.2.1 C.2.2.2.1 (C.at hcl) (va_AO.use hov) rfl hdg rfl ?_ (by rw [hcl0]; exact hbytes) hcells (by rw [hcl0]; exact hslots) fun cA kA comp f1 f2 f3 f4 => ?_
  · intro q
    rw [show (0 : Int32) = zI 0 from rfl, zI_lt (by omega) (by omega) (by omega) (by omega)] at q
    omega
  · rw [hcl0, hN.2]
    obtain ⟨-, -, -, -, -, h9⟩ := (hN.1.2.2.2.1.2 t0 _ ht).2
    have hcy : cA = cy := Option.some.inj (f1.symm.trans h9)
    subst hcy
    generalize hH1 : H.push ({ cls := cA, slots := Array.replicate N' .null, vm := .none } : Cell) = H1
    have z1 : H1.size = H.size + 1 := by rw [← hH1, Array.size_push]
    have e1 : H1[sz + k0]? = some (arrV cA N' (fun _ => .null)) := by rw [← hN.2, ← hH1, Array.getElem?_push_size, ← arrV_new]
    have o1 : ∀ q : Nat, q < H.size → H1[q]? = H[q]? := fun q hq => by rw [← hH1, Array.getElem?_push, if_neg (Nat.ne_of_lt hq)]
    refine kk H1 (hN.push o1 z1 ?_)
    show H1[sz + k0]? = some (vp_cell _ _)
    rw [vp_cell_q]
    exact e1
/-- the world behind a write that keeps the size -/
theorem zN.up {k : Nat} {x : va_E} (hN : zN D tys L A s f H0 H locs sz k0) {H1 : Heap} {locs1 : List Loc} (ha : a ∈ L ++ List.range' sz k0) (hk : (va_pl (L ++ List.range' sz k0) f)[k]? = some (a, f a)) (hg : va_up f a x = g) (hz : H1.size = H.size)
    (hP : va_P D vwCl ((va_pl (L ++ List.range' sz k0) f).set k (a, x)) H1) (hD : va_D A ((va_pl (L ++ List.range' sz k0) f).set k (a, x))) (hS : va_S A H0 H1 locs1) : zN D tys L A s g H0 H1 locs1 sz k0 := ⟨hN.1.up ha hk hg hP hD hS, hz.trans hN.2⟩
theorem zn_put (C : zC p s m args meth c cc nL ret own Ts) (hN : zN D tys L A s f H0 H locs sz k0) {ci : Nat} {fs : List Value} {v : Value} {Cn ref : String} {T : u_T} {N index : Nat} (hf : f a = .inr (ci, fs)) (hc : vwCl[ci]? = some (Cn, T, N)) (hin : ∀ w ∈ u_ws Cn T N, w ∈ Ts) (ty0 : Nat → FieldType) (hty : ∀ k, k < N → parseFieldDescriptor (T k).2.2.1 = some (ty0 k)) (hnm : ∀ a, a < N → ∀ b, b < N → a ≠ b → (T a).2.1 ≠ (T b).2.1) (k : Nat) (hk : k < N) (hlink : Cond.fieldLink own index ref (T k).2.1 (T k).2.2.1 ∈ Ts) (hsame : ref = (T k).1) (hfin : (T k).2.2.2 = false) (hn : narrow (ty0 k) v = v) (hfit : fits (ty0 k) v = true) (hl : k < fs.length) (hg : va_up f a (.inr (ci, fs.set k v)) = g) (hdg : decode cc pc = .ok (.putfield index, 3))
    (kk : ∀ (H1 : Heap) (locs1 : List Loc), zN D tys L A s g H0 H1 locs1 sz k0 → W p l e R s m args below meth c H1 locs1 cells slots Q (F0 m (pc + 3) ls rest)) : W p l e R s m args below meth c H locs cells slots Q (F0 m pc ls (v :: .ref a :: rest)) := by
  have hW := hN.1
  have ha := hW.mem hf (zJo hc)
  obtain ⟨k0', hk1⟩ := zpl_at (D := D) (f := f) ha
  have hk0 := hk1
  rw [hf] at hk0
  have hap := va_apart (own := own) C.2.2.2.2.1 hin ty0 hty hnm hW.2.2.2.1 hc
  obtain ⟨r, h1, cell, q1, q2, q3, q4⟩ := hW.1 k0' _ hk0
  have hr : r = (Cn, T, N) := Option.some.inj (h1.symm.trans hc)
  subst hr
  obtain ⟨hS, hfc, kC, hkC, hkind⟩ := hW.2.2.2.1.1 ci _ hc
  obtain ⟨cf, kf, fi, fd, hi, hsl⟩ := hS k hk
  have hlay := C.2.2.2.2.1 _ (hin _ (u_in_lay hk))
  unfold u_lay at hlay
  rw [if_neg (by rw [hfin]; decide)] at hlay
  have hst := (u_facts hfc hkC (u_lays C.2.2.2.2.1 hin hk) hi).1
  have h6 := u_store hfc hkC hkind hlay hi (hty k hk) hn hfit
  refine W.putK C.1 C.2.1 (f := fd) ⟨C.2.2.2.1, C.at hlink, ⟨_, _, _, by rw [hsame]; exact hi⟩, hst⟩ (by rw [q2]; exact h6) q1 q3 (by rw [hsl]; exact k2_hasslot (q4 k hk)) rfl rfl hdg fun H' e1 e2 e3 => ?_
  rw [hsl] at e1 ⊢
  exact kk H' _ (hN.up ha hk1 hg e2 (hW.1.set hW.2.1 hk0 ⟨_, hc, t_OB.to (V := updV (vp_V fs) k v) ⟨_, e1, q2, q3, t_set q4 hap hk v⟩ (fun j _ => vp_updV_set hl v j)⟩ e3) (hW.2.1.set hk0) (hW.2.2.1.put e2 e3 (hW.2.1.2 k0' _ hk0)))
theorem zn_putF (C : zC p s m args meth c cc nL ret own Ts) (hN : zN D tys L A s f H0 H locs sz k0) {ci : Nat} {fs : List Value} {v : Value} {Cn ref : String} {T : u_T} {N index : Nat} (hf : f a = .inr (ci, fs)) (hc : vwCl[ci]? = some (Cn, T, N)) (hin : ∀ w ∈ u_ws Cn T N, w ∈ Ts) (ty0 : Nat → FieldType) (hty : ∀ k, k < N → parseFieldDescriptor (T k).2.2.1 = some (ty0 k)) (hnm : ∀ a, a < N → ∀ b, b < N → a ≠ b → (T a).2.1 ≠ (T b).2.1) (k : Nat) (hk : k < N) (hlink : Cond.fieldLink own index ref (T k).2.1 (T k).2.2.1 ∈ Ts) (hsame : ref = (T k).1) (hfin : (T k).2.2.2 = true) (hin2 : meth.name = "<init>") (hdecl : (T k).1 = own) (hn : narrow (ty0 k) v = v) (hfit : fits (ty0 k) v = true) (hl : k < fs.length) (hg : va_up f a (.inr (ci, fs.set k v)) = g) (hdg : decode cc pc = .ok (.putfield index, 3))
    (kk : ∀ (H1 : Heap) (locs1 : List Loc), zN D tys L A s g H0 H1 locs1 sz k0 → W p l e R s m args below meth c H1 locs1 cells slots Q (F0 m (pc + 3) ls rest)) : W p l e R s m args below meth c H locs cells slots Q (F0 m pc ls (v :: .ref a :: rest)) := by
  have hW := hN.1
  have ha := hW.mem hf (zJo hc)
  obtain ⟨k0', hk1⟩ := zpl_at (D := D) (f := f) ha
  have hk0 := hk1
  rw [hf] at hk0
  have hap := va_apart (own := own) C.2.2.2.2.1 hin ty0 hty hnm hW.2.2.2.1 hc
  obtain ⟨r, h1, cell, q1, q2, q3, q4⟩ := hW.1 k0' _ hk0
  have hr : r = (Cn, T, N) := Option.some.inj (h1.symm.trans hc)
  subst hr
  obtain ⟨hS, hfc, kC, hkC, hkind⟩ := hW.2.2.2.1.1 ci _ hc
  obtain ⟨cf, kf, fi, fd, hi, hsl⟩ := hS k hk
  have hlay := C.2.2.2.2.1 _ (hin _ (u_in_lay hk))
  unfold u_lay at hlay
  rw [if_pos hfin] at hlay
  have hst := (u_facts hfc hkC (u_lays C.2.2.2.2.1 hin hk) hi).1
  have hcf : m.cls = cf := by
    obtain ⟨_, _, c', _, _, _, -, -, hf', -, -, -, hown2, -⟩ := Cond.laysFinal_spec hlay
    have e1 : c' = cf := by have := hi.symm.trans hf'; simp at this; exact this.1.symm
    rw [hdecl] at hown2
    rw [← e1]; exact Option.some.inj (C.2.2.2.1.symm.trans hown2)
  have h6 := u_fits hfc hkC hkind (Or.inr hlay) hi (hty k hk) hn hfit
  refine W.putFinK C.1 C.2.1 C.2.2.2.1 (C.at hlink) (by rw [hsame]; exact hi) hst hcf hin2 (by rw [q2]; exact h6) q1 q3 (by rw [hsl]; exact k2_hasslot (q4 k hk)) rfl rfl hdg fun H' e1 e2 e3 => ?_
  rw [hsl] at e1 ⊢
  exact kk H' _ (hN.up ha hk1 hg e2 (hW.1.set hW.2.1 hk0 ⟨_, hc, t_OB.to (V := updV (vp_V fs) k v) ⟨_, e1, q2, q3, t_set q4 hap hk v⟩ (fun j _ => vp_updV_set hl v j)⟩ e3) (hW.2.1.set hk0) (hW.2.2.1.put e2 e3 (hW.2.1.2 k0' _ hk0)))
theorem zn_aast (C : zC p s m args meth c cc nL ret own Ts) (hN : zN D tys L A s f H0 H locs sz k0) {cy : ClassId} {n ci v : Nat} {r : vw_C} {q : Nat → Option Nat} {vs : List Value} {i : Int} (hf : f a = zAR cy n q) (t0 : Nat) (ht : tys[t0]? = some (cy, .object r.1)) (hv : f v = .inr (ci, vs)) (hc : vwCl[ci]? = some r) (hi : 0 ≤ i ∧ i < n ∧ i ≤ 2147483647) (hg : va_up f a (zAR cy n (va_up q i.toNat (some v))) = g) (hdg : decode cc pc = .ok (.aastore, 1))
    (kk : ∀ (H1 : Heap) (locs1 : List Loc), zN D tys L A s g H0 H1 locs1 sz k0 → W p l e R s m args below meth c H1 locs1 cells slots Q (F0 m (pc + 1) ls rest)) : W p l e R s m args below meth c H locs cells slots Q (F0 m pc ls (.ref v :: .int (zI i) :: .ref a :: rest)) := by
  have hW := hN.1
  have ha := hW.mem hf zJi
  obtain ⟨k1, hk1⟩ := zpl_at (D := D) (f := f) ha
  have hk0 := hk1
  rw [hf] at hk0
  obtain ⟨k2, hk2⟩ := zpl_at (D := D) (f := f) (hW.mem hv (zJo hc))
  rw [hv] at hk2
  have ecl := zI_clamp hi.1 hi.2.2
  have h0 : ¬ zI i < 0 := fun q => by
    rw [show (0 : Int32) = zI 0 from rfl, zI_lt (by omega) (by omega) (by omega) (by omega)] at q
    omega
  have hlt : i.toNat < n := by omega
  obtain ⟨r', hr', cellV, g1, g2, g3, -⟩ := hW.1 k2 _ hk2
  have hcls := (hW.2.2.2.1.1 ci r hc).2
  obtain ⟨kA, comp, j1, j2, j3, -⟩ := (hW.2.2.2.1.2 t0 _ ht).2
  have hcomp : comp = D.1 ci := Option.some.inj (j3.symm.trans hcls.1)
  subst hcomp
  obtain ⟨kC, hkC, -⟩ := hcls.2
  refine W.aast C.1 C.2.1 (hW.1 k1 _ hk0) (fun q h => by cases h) (fun h => by cases h) j1 j2 rfl hkC ⟨h0, by show _ < (arrV _ _ _).slots.size; rw [arrV_size, ecl]; exact hlt⟩ g1 (fun q h => by rw [g3] at h; cases h) (by rw [g2]; exact hkC) (by rw [g2]; exact va_assign hcls) rfl rfl hdg fun H1 e z oq => ?_
  refine kk H1 _ (hN.up ha hk1 hg z (hW.1.set hW.2.1 hk0 ?_ oq) (hW.2.1.set hk0) (hW.2.2.1.put z oq (hW.2.1.2 k1 _ hk0)))
  show H1[a]? = some (vp_cell _ _)
  rw [e, vp_cell_q, vp_cell_q, arrV_store, ecl]
  congr 2
  funext q
  by_cases hq : q = i.toNat
  · subst hq
    simp [updV, va_up, va_rf]
  · simp [updV, va_up, hq]
-- contracts that make cells
abbrev zEn (D : va_G) (tys : List (ClassId × FieldType)) (L : List Nat) (sz nc : Nat) (f' : Nat → va_E) (t : State) : Prop := (va_P D vwCl (va_pl (L ++ List.range' sz nc) f') t.heap ∧ va_D (zQ L sz) (va_pl (L ++ List.range' sz nc) f') ∧ va_K D vwCl tys t) ∧ (∀ a, f' a ≠ zJ → a ∈ L ++ List.range' sz nc) ∧ t.heap.size = sz + nc
abbrev zRn (D : va_G) (tys : List (ClassId × FieldType)) (L : List Nat) (sz nc : Nat) (ok : (Nat → va_E) → Prop) : Array Value → State → Outcome → State → Prop := va_Qv ok (zEn D tys L sz nc) (zQ L sz)
def zMn (l : Launch) (y : MethodName) (ws : List Cond) (fr lo nc ns : Nat) (D : va_G) (tys : List (ClassId × FieldType)) (L : List Nat) (sz : Nat) (f : Nat → va_E) (as : List Value) (ok : (Nat → va_E) → Prop) : Prop := Met l y ws { frames := fr, cells := nc, slots := ns, locals := lo } (zB D tys L sz f as) (zRn D tys L sz nc ok) nc ns (zQ L sz)
theorem zn_callv {st0 : List Value} {aa : Array Value} {ok : (Nat → va_E) → Prop} {nc ns : Nat} (hN : zN D tys L A s f H0 H locs sz k0) (hr : va_Run p l e R s m args below meth c H locs cells slots nc ns (F0 m pc ls st0) rest (zRn D tys (L ++ List.range' sz k0) (sz + k0) nc ok aa) (zQ (L ++ List.range' sz k0) (sz + k0)))
    (kk : ∀ (g : Nat → va_E) (H1 : Heap) (locs1 : List Loc), ok g → zN D tys L A s g H0 H1 locs1 sz (k0 + nc) → W p l e R s m args below meth c H1 locs1 (cells + nc) (slots + ns) Q (F0 m (pc + 3) ls rest)) : W p l e R s m args below meth c H locs cells slots Q (F0 m pc ls st0) := by
  have hW := hN.1
  have hq : ∀ q, zQ (L ++ List.range' sz k0) (sz + k0) q → A q := by rw [← hN.2]; exact zQ_A hW
  refine va_callv hr hW.2.2.1 (fun q _ h => hq q h) hq (fun u t H1 locs1 ht hvm ho hB _ _ hS => ?_)
  obtain ⟨⟨e1, e2, e3⟩, e4, e5⟩ := hB
  rw [ht] at e1 e5
  rw [zrange2] at e1 e2 e4
  exact kk u H1 locs1 ho ⟨⟨e1, e2.weaken (fun _ q _ h => hq q.1 h), hS, hW.2.2.2.1, e4, hW.2.2.2.2.2⟩, by rw [e5]; omega⟩
theorem zn_vret {ok : (Nat → va_E) → Prop} {nc : Nat} (C : zC p s m args meth c cc nL none own Ts) (hN : zN D tys L (zQ L sz) s g s.heap H locs sz nc) (hok : ok g) (hdg : decode cc pc = .ok (.return_, 1)) : W p l e R s m args below meth c H locs cells slots (MQ below (zRn D tys L sz nc ok) args s cells slots (zQ L sz)) (F0 m pc ls []) :=
  W.vret C.1 C.2.1 C.2.2.2.2.2.2.1 (fun t ht hw => ⟨⟨g, rfl, hok, ⟨by rw [ht]; exact hN.1.1, hN.1.2.1, va_K.moved hw.alike hN.1.2.2.2.1⟩, hN.1.2.2.2.2.1, by rw [ht]; exact hN.2⟩, hN.1.2.2.1.F ht⟩) hN.1.2.2.1.2.2 hdg C.2.2.2.2.2.1
end ZAr
section ZAm
variable {l : Launch} {y : MethodName} {D : va_G} {tys : List (ClassId × FieldType)} {L : List Nat} {f : Nat → va_E} {cc : ByteArray} {nL : Nat} {ret : Option FieldType} {Ts ws' : List Cond} {sz nc ns : Nat} {as : List Value}
theorem zNew.met {rm : Room} {Qc : Array Value → State → Outcome → State → Prop} (hy : plainName y.cls = true) (hw : Ts = Cond.code y cc nL ret :: ws') (hn : (lg_sl as).length ≤ nL)
    (h : ∀ (p : Program) (e : Env) (s : State) (m : MethodId) (args : Array Value) (below : List Frame) (meth : Method) (c : Code) (ls : Array Slot), zC p s m args meth c cc nL ret y.cls Ts → meth.name = y.name → zN D tys L (zQ L sz) s f s.heap s.heap [] sz 0 → lv_has ls nL (lv_args 0 as) →
      W p l e rm s m args below meth c s.heap [] 0 0 (MQ below Qc args s nc ns (zQ L sz)) (F0 m 0 ls [])) : Met l y Ts rm (zB D tys L sz f as) Qc nc ns (zQ L sz) := by
  refine Met.ofW (cc := cc) (maxL := nL) (ret := ret) hy hw ?_
  intro p e s m args below meth c s₁ B hml hv
  obtain ⟨rfl, ⟨hsz, hP, hD0, ⟨hK, hO⟩, hT⟩, hJ⟩ := hv
  have hl := lv_entry as (n := nL) hn
  rw [lg_entry_eq]
  subst hsz
  refine h p e s m _ below meth c _ ⟨B.exec, B.bytes, hml, findClass_of_methodNamed B.named, atoms_spec (ws := Ts) B.pre, B.notSynchronized, B.returns, hO⟩ (name_of_methodNamed B.named B.method).1 (zN.start ⟨hP, ⟨hD0.1, fun k q hk => ?_⟩, va_S.rf, hK, hJ, fun q h => Or.inr h, hT⟩ rfl) hl
  left
  unfold va_pl at hk
  rw [List.getElem?_map] at hk
  cases hL : L[k]? with
  | none => rw [hL] at hk; cases hk
  | some a =>
    rw [hL] at hk
    cases hk
    exact List.mem_of_getElem? hL
end ZAm
end ZAl
