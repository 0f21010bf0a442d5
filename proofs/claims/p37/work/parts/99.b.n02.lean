section ZYb
section ZYs
variable {p : Program} {l : Launch} {e : Env} {R : Room} {s : State} {m : MethodId} {args : Array Value} {below : List Frame} {meth : Method} {c : Code} {H : Heap} {locs : List Loc} {cells slots : Nat} {Q : State → Prop}
variable {cc : ByteArray} {nL pc : Nat} {ret : Option FieldType} {own : String} {Ts : List Cond} {ls : Array Slot} {rest : List Value} {D : va_G} {tys : List (ClassId × FieldType)} {L : List Nat} {A : Nat → Prop} {f g : Nat → va_E} {H0 : Heap} {a : Nat}
theorem zy_clone (C : zC p s m args meth c cc nL ret own Ts) (hW : zW D tys L A s f H0 H locs) (hls : ls.size = nL) {index : Nat}
    (hlink : (Cond.methodLink own index ⟨"[B", "clone", "()Ljava/lang/Object;"⟩).before args s = true) (hsame : (Cond.sameMethod "[B" "java/lang/Object" "clone" "()Ljava/lang/Object;").before args s = true)
    (hnat : (Cond.native ⟨"java/lang/Object", "clone", "()Ljava/lang/Object;"⟩).before args s = true) (hinst : (Cond.instanceMethod ⟨"java/lang/Object", "clone", "()Ljava/lang/Object;"⟩).before args s = true)
    (hsel : (Cond.selects "[B" ⟨"[B", "clone", "()Ljava/lang/Object;"⟩ ⟨"java/lang/Object", "clone", "()Ljava/lang/Object;"⟩).before args s = true)
    {cy : ClassId} {n : Nat} {d : Nat → Int} (hf : f a = zA cy n d) (t0 : Nat) (ht : tys[t0]? = some (cy, .byte)) (hd : ∀ k, -128 ≤ d k ∧ d k ≤ 127)
    (hframes : 1 ≤ R.frames) (hlocals : (rest.map fun v => v.category).sum + 14 ≤ R.locals) (hcells : cells + 1 ≤ R.cells) (hslots : slots + n ≤ R.slots) (hdg : decode cc pc = .ok (.invokevirtual index, 3))
    (kk : ∀ (q : Nat) (Lx : List Nat) (H1 : Heap), f q = zJ → zW D tys Lx A s (va_up f q (zA cy n d)) H0 H1 locs → W p l e R s m args below meth c H1 locs (cells + 1) (slots + n) Q (F0 m (pc + 3) ls (.ref q :: rest))) : W p l e R s m args below meth c H locs cells slots Q (F0 m pc ls (.ref a :: rest)) := by
  obtain ⟨k0, hk0⟩ := zpl_at (D := D) (f := f) (hW.mem hf zJi)
  rw [hf] at hk0
  refine va_clone C.1 C.2.1 (C.2.2.1.trans hls.symm) C.2.2.2.1 hlink hsame hnat hinst hsel C.2.2.2.2.2.2.2.2.2.2.2 hW.2.2.2.1 hW.1 hW.2.1 hW.2.2.1 hW.2.2.2.2.2.1 k0 t0 hk0 ht (hW.2.2.2.1.2 t0 _ ht).2 (fun i v hv => ?_) hframes hlocals hcells hslots hdg (fun q H1 _ hP hD hS => ?_)
  · rw [vp_cell_i] at hv
    by_cases hi : i < n
    · rw [arrV_read _ _ hi] at hv
      cases hv
      exact zI_fitB (hd i)
    · rw [Array.getElem?_eq_none (by rw [arrV_size]; omega)] at hv
      cases hv
  · have hq : q ∉ L := fun hm => by
      obtain ⟨k, hk⟩ := zpl_at (D := D) (f := f) hm
      have hl : k < (va_pl L f).length := (List.getElem?_eq_some_iff.mp hk).1
      have := hD.1 k (va_pl L f).length (q, f q) (q, .inl (cy, n, .inl (fun k => zI (d k)))) (by rw [List.getElem?_append_left hl]; exact hk) (by rw [List.getElem?_append_right (Nat.le_refl _), Nat.sub_self]; rfl) rfl
      omega
    rw [va_pl_push hq] at hP hD
    refine kk q (L ++ [q]) H1 (Classical.byContradiction fun z => hq (hW.2.2.2.2.1 q z)) ⟨hP, hD, hS, hW.2.2.2.1, fun b hb => ?_, hW.2.2.2.2.2⟩
    by_cases hb2 : b = q
    · rw [hb2]
      exact List.mem_append_right _ List.mem_cons_self
    · rw [va_up_ne _ _ hb2] at hb
      exact List.mem_append_left _ (hW.2.2.2.2.1 b hb)
/-- the class of a pooled object stands -/
theorem zy_at (hW : zW D tys L A s f H0 H locs) {ci : Nat} {r : vw_C} (hc : vwCl[ci]? = some r) : ClassAt s r.1 (D.1 ci) := (hW.2.2.2.1.1 ci _ hc).2
end ZYs
section ZYm
variable {l : Launch} {y : MethodName} {D : va_G} {tys : List (ClassId × FieldType)} {L : List Nat} {f : Nat → va_E} {cc : ByteArray} {nL : Nat} {ret : Option FieldType} {Ts ws' : List Cond} {sz nc ns : Nat} {as : List Value}
theorem zyWalk.met {rm : Room} {Qc : Array Value → State → Outcome → State → Prop} (hy : plainName y.cls = true) (hw : Ts = Cond.code y cc nL ret :: ws') (hn : (lg_sl as).length ≤ nL)
    (h : ∀ (p : Program) (e : Env) (s : State) (m : MethodId) (args : Array Value) (below : List Frame) (meth : Method) (c : Code) (ls : Array Slot), zC p s m args meth c cc nL ret y.cls Ts → meth.name = y.name → zW D tys L (zQ L sz) s f s.heap s.heap [] → lv_has ls nL (lv_args 0 as) →
      W p l e rm s m args below meth c s.heap [] 0 0 (MQ below Qc args s nc ns (zQ L sz)) (F0 m 0 ls [])) : Met l y Ts rm (zB D tys L sz f as) Qc nc ns (zQ L sz) :=
  zNew.met hy hw hn (fun p e s m args below meth c ls C hnm hN hl => h p e s m args below meth c ls C hnm (by
    have q := hN.1
    rw [List.range'_zero, List.append_nil] at q
    exact q) hl)
end ZYm
theorem zkO {f : Nat → va_E} {a ci : Nat} {fs : List Value} {r : vw_C} (h : f a = .inr (ci, fs)) (hc : vwCl[ci]? = some r) : f a ≠ zJ := by
  rw [h]
  exact zJo hc
theorem zkA {f : Nat → va_E} {a : Nat} {x : ClassId × vp_A} (h : f a = .inl x) : f a ≠ zJ := by
  rw [h]
  exact zJi
theorem zfr_ne {f : Nat → va_E} {a q : Nat} (ha : f a ≠ zJ) (hq : f q = zJ) : a ≠ q := fun e => ha (by rw [e]; exact hq)
theorem zI_shr0 (x : Int) : zI x >>> (zI 0 &&& 31) = zI x := by
  rw [show zI 0 &&& 31 = (0 : Int32) from by decide]
  exact Int32.shiftRight_zero
theorem zI_shl0 (x : Int) : zI x <<< (zI 0 &&& 31) = zI x := by
  rw [show zI 0 &&& 31 = (0 : Int32) from by decide]
  exact Int32.shiftLeft_zero
/-- all bytes -/
def zbt (d : Nat → Int) : Prop := ∀ k, -128 ≤ d k ∧ d k ≤ 127
/-- a text: one of those that stand for ever, or a made one -/
def zTx (D : va_G) (cJ : ClassId) (f : Nat → va_E) (h n : Nat) (t : Nat → Int) : Prop :=
  (∃ i : Nat, i < 12 ∧ h = D.2 98 i ∧ (n : Int) = zlen i ∧ ∀ k, k < n → t k = zchr i k) ∨
  ∃ (b : Nat) (d : Nat → Int) (x y : Int), f h = .inr (12, [.ref b, .int (zI 0), .int (zI x), .int (zI y)]) ∧ f b = zA cJ n d ∧ zbt d ∧ ∀ k, k < n → t k = d k
/-- a text being made; f0: what stood before it -/
def zSB (cJ : ClassId) (f0 f : Nat → va_E) (q n : Nat) (t : Nat → Int) : Prop :=
  (∃ (v cap : Nat) (d : Nat → Int) (ml : Int), f q = .inr (13, [.ref v, .int (zI 0), .int (zI ml), .int (zI n)]) ∧ f v = zA cJ cap d ∧ zbt d ∧ (∀ k, k < n → d k = t k) ∧ n ≤ cap ∧ cap ≤ 700 ∧ f0 v = zJ) ∧ f0 q = zJ ∧ ∀ b, f0 b ≠ zJ → f b = f0 b
/-- one text behind another -/
def zct2 (t : Nat → Int) (n : Nat) (s : Nat → Int) : Nat → Int := fun k => if k < n then t k else s (k - n)
/-- what stood stands still -/
def zKp2 (f g : Nat → va_E) : Prop := ∀ b, f b ≠ zJ → g b = f b
theorem zKp2.tr {f g h : Nat → va_E} (h1 : zKp2 f g) (h2 : zKp2 g h) : zKp2 f h := fun b hb => by
  have e := h1 b hb
  rw [← e]
  exact h2 b (by rw [e]; exact hb)
theorem zSB.kp {cJ : ClassId} {f0 f g : Nat → va_E} {q n : Nat} {t : Nat → Int} (h : zSB cJ f0 f q n t) (hg : zKp2 f g) : zSB cJ f0 g q n t := by
  obtain ⟨⟨v, cap, d, ml, h1, h2, h3, h4, h5, h6, h7⟩, h8, h9⟩ := h
  refine ⟨⟨v, cap, d, ml, ?_, ?_, h3, h4, h5, h6, h7⟩, h8, fun b hb => ?_⟩
  · rw [hg q (by rw [h1]; exact zJo (ci := 13) rfl), h1]
  · rw [hg v (by rw [h2]; exact zJi), h2]
  · rw [hg b (by rw [h9 b hb]; exact hb), h9 b hb]
theorem zTx.kp {D : va_G} {cJ : ClassId} {f g : Nat → va_E} {h n : Nat} {t : Nat → Int} (hx : zTx D cJ f h n t) (hg : zKp2 f g) : zTx D cJ g h n t := by
  rcases hx with c | ⟨b, d, x, y, h1, h2, h3, h4⟩
  · exact Or.inl c
  · refine Or.inr ⟨b, d, x, y, ?_, ?_, h3, h4⟩
    · rw [hg h (by rw [h1]; exact zJo (ci := 12) rfl), h1]
    · rw [hg b (by rw [h2]; exact zJi), h2]
end ZYb
