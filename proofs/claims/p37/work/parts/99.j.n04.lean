section ZLj
theorem zI_or01 {x y : Int} (hx : x = 0 ∨ x = 1) (hy : y = 0 ∨ y = 1) : zI x ||| zI y = zI (max x y) := by
  rcases hx with e | e <;> rcases hy with e2 | e2 <;> subst e <;> subst e2 <;> decide
/-- a matrix of five rows -/
def zMq (cI cM : ClassId) (q : Nat) (d : Nat → Nat → Int) (g : Nat → va_E) : Prop := g q = zAR cM 5 (fun j => some (q + 1 + j)) ∧ ∀ i, i < 5 → g (q + 1 + i) = zA cI 5 (d i)
theorem zMq.kp {cI cM : ClassId} {q : Nat} {d : Nat → Nat → Int} {f g : Nat → va_E} (h : zMq cI cM q d f) (hg : zKp2 f g) : zMq cI cM q d g := by
  refine ⟨?_, fun i hi => ?_⟩
  · rw [hg q (by rw [h.1]; exact zJi), h.1]
  · rw [hg _ (by rw [h.2 i hi]; exact zJi), h.2 i hi]
theorem zMq.st {cI cM : ClassId} {q : Nat} {d : Nat → Nat → Int} {g : Nat → va_E} (h : zMq cI cM q d g) {i : Nat} (hi : i < 5) (e : Nat → Int) : zMq cI cM q (fun a => if a = i then e else d a) (va_up g (q + 1 + i) (zA cI 5 e)) := by
  refine ⟨?_, fun k hk => ?_⟩
  · rw [va_up_ne _ _ (by omega), h.1]
  · by_cases c : k = i
    · subst c
      rw [va_up_self]
      dsimp only
      rw [if_pos rfl]
    · rw [va_up_ne _ _ (by omega), h.2 k hk]
      dsimp only
      rw [if_neg c]
theorem zKp2.up {f g : Nat → va_E} {a : Nat} {x : va_E} (h : zKp2 f g) (ha : f a = zJ) : zKp2 f (va_up g a x) := fun b hb => (va_up_ne _ _ (fun e => hb (by rw [e]; exact ha))).trans (h b hb)
theorem zKp2.refl {f : Nat → va_E} : zKp2 f f := fun _ _ => rfl
/-- a builder's letters as a list -/
def zof (l : List Int) : Nat → Int := fun k => l.getD k 0
def zSL (cJ : ClassId) (f0 f : Nat → va_E) (q : Nat) (l : List Int) : Prop := zSB cJ f0 f q l.length (zof l)
theorem zof_app (l m : List Int) (k : Nat) : zct2 (zof l) l.length (zof m) k = zof (l ++ m) k := by
  unfold zct2 zof
  by_cases c : k < l.length
  · rw [if_pos c, List.getD_eq_getElem?_getD, List.getD_eq_getElem?_getD, List.getElem?_append_left c]
  · rw [if_neg c, List.getD_eq_getElem?_getD, List.getD_eq_getElem?_getD, List.getElem?_append_right (by omega)]
theorem zSL.app {cJ : ClassId} {f0 g : Nat → va_E} {q : Nat} {l m : List Int} (h : zSB cJ f0 g q (l.length + m.length) (zct2 (zof l) l.length (zof m))) : zSL cJ f0 g q (l ++ m) := h.congr (List.length_append ..).symm (fun k _ => zof_app l m k)
theorem zSL.app1 {cJ : ClassId} {f0 g : Nat → va_E} {q : Nat} {l : List Int} {x : Int} (h : zSB cJ f0 g q (l.length + 1) (zct2 (zof l) l.length (fun _ => x))) : zSL cJ f0 g q (l ++ [x]) := h.congr (by rw [List.length_append]; rfl) (fun k hk => by
  rw [← zof_app l [x]]
  unfold zct2
  by_cases c : k < l.length
  · rw [if_pos c, if_pos c]
  · rw [if_neg c, if_neg c, show k - l.length = 0 by omega]
    rfl)
/-- the texts that stand for ever, letter by letter -/
def zctx : List (List Int) := [[102, 105, 101, 108, 100], [99, 117, 114, 118, 101], [120], [121], [48], [43], [42, 120, 94], [42, 121, 94], [102, 105, 101, 108, 100, 32], [59, 99, 117, 114, 118, 101, 32, 97, 32, 61, 32], [59, 99, 117, 114, 118, 101, 32, 98, 32, 61, 32], [59]]
theorem zTx_c {D : va_G} {cJ : ClassId} {f : Nat → va_E} (i : Nat) (hi : i < 12) : zTx D cJ f (D.2 98 i) (zctx.getD i []).length (zof (zctx.getD i [])) := by
  have k1 : ∀ i : Fin 12, (((zctx.getD i.val []).length : Nat) : Int) = zlen i.val := by decide
  have k2 : ∀ i : Fin 12, ∀ k : Fin 11, zof (zctx.getD i.val []) k.val = zchr i.val k.val := by decide
  have k3 : ∀ i : Fin 12, (zctx.getD i.val []).length ≤ 11 := by decide
  exact Or.inl ⟨i, hi, rfl, k1 ⟨i, hi⟩, fun k hk => k2 ⟨i, hi⟩ ⟨k, Nat.lt_of_lt_of_le hk (k3 ⟨i, hi⟩)⟩⟩
section ZLjm
variable {p : Program} {l : Launch} {e : Env} {R : Room} {s : State} {m : MethodId} {args : Array Value} {below : List Frame} {meth : Method} {c : Code} {H : Heap} {locs : List Loc} {cells slots : Nat} {Q : State → Prop}
variable {cc : ByteArray} {nL pc : Nat} {ret : Option FieldType} {own : String} {Ts : List Cond} {ls : Array Slot} {rest : List Value} {D : va_G} {tys : List (ClassId × FieldType)} {L : List Nat} {A : Nat → Prop} {f g : Nat → va_E} {H0 : Heap} {a : Nat}
theorem zW.fresh2 (hW : zW D tys L A s f H0 H locs) (j : Nat) : f (H.size + j) = zJ := Classical.byContradiction fun h => by
  obtain ⟨k, hk⟩ := zpl_at (D := D) (f := f) (hW.2.2.2.2.1 _ h)
  have := (hW.1 k _ hk).lt
  omega
theorem zy_mna (C : zC p s m args meth c cc nL ret own Ts) (hW : zW D tys L A s f H0 H locs) {index : Nat} (hcl : Cond.classLink own index ("[" ++ (FieldType.array .int).toString) ∈ Ts) (harr : Cond.arrayClass .int ∈ Ts) (tm ti : Nat) {cM cI : ClassId} (htm : tys[tm]? = some (cM, .array .int)) (hti : tys[ti]? = some (cI, .int)) (hcells : cells + 6 ≤ R.cells) (hslots : slots + 30 ≤ R.slots) (hdg : decode cc pc = .ok (.multianewarray index 2, 4))
    (kk : ∀ (q : Nat) (Lx : List Nat) (H1 : Heap) (g : Nat → va_E), (∀ k, k < 6 → f (q + k) = zJ) → zKp2 f g → zMq cI cM q (fun _ => zone 0) g → zW D tys Lx A s g H0 H1 locs → W p l e R s m args below meth c H1 locs (cells + 6) (slots + 30) Q (F0 m (pc + 4) ls (.ref q :: rest))) : W p l e R s m args below meth c H locs cells slots Q (F0 m pc ls (.int (zI 5) :: .int (zI 5) :: rest)) := by
  refine zn_mna C (zN.start hW rfl) hcl harr tm ti htm hti 5 5 (by decide) (by decide) hcells (by omega) hdg (fun H1 hN => ?_)
  refine kk (H.size + 0) _ H1 _ (fun k _ => by rw [Nat.add_zero]; exact hW.fresh2 k) (fun b hb => zadd_out (fun q => ?_)) ⟨?_, fun i hi => ?_⟩ hN.1
  · obtain ⟨j, rfl⟩ : ∃ j, b = H.size + j := ⟨b - H.size, by omega⟩
    exact hb (hW.fresh2 j)
  · exact (zadd_in (i := 0) (by omega)).trans (if_pos rfl)
  · rw [show H.size + 0 + 1 + i = H.size + 0 + (i + 1) by omega]
    exact (zadd_in (i := i + 1) (by omega)).trans (if_neg (by omega))
end ZLjm
end ZLj
