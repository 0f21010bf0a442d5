section ZMn
theorem zz0 : (fun k => zI (zone 0 k)) = fun _ => (0 : Int32) := by
  funext k
  unfold zone
  split <;> rfl
/-- an array of arrays -/
theorem zmn_outer (c : ClassId) (N h0 : Nat) : ∀ i : Nat, Jvm.Free.Multi.outerC c N h0 i = arrV c N (fun j => va_rf (if j < i then some (h0 + 1 + j) else none))
  | 0 => by
    show ({ cls := c, slots := Array.replicate N .null, vm := .none } : Cell) = _
    rw [arrV_new]
    refine congrArg (arrV c N) (funext fun j => ?_)
    rw [if_neg (Nat.not_lt_zero j)]
    rfl
  | i + 1 => by
    show (Jvm.Free.Multi.outerC c N h0 i).setSlot i (.ref (h0 + 1 + i)) = _
    rw [zmn_outer c N h0 i, arrV_store]
    refine congrArg (arrV c N) (funext fun j => ?_)
    unfold updV
    by_cases e : j = i
    · subst e
      rw [if_pos rfl, if_pos (Nat.lt_succ_self _)]
      rfl
    · rw [if_neg e]
      show va_rf (if j < i then some (h0 + 1 + j) else none) = _
      by_cases h : j < i
      · rw [if_pos h, if_pos (Nat.lt_succ_of_lt h)]
      · rw [if_neg h, if_neg (by omega)]
theorem zD_nodup {A : Nat → Prop} {L : List Nat} {f : Nat → va_E} (h : va_D A (va_pl L f)) : L.Nodup := by
  unfold List.Nodup
  rw [List.pairwise_iff_getElem]
  intro i j hi hj hij e
  have h1 : (va_pl L f)[i]? = some (L[i], f L[i]) := by unfold va_pl; rw [List.getElem?_map, List.getElem?_eq_getElem hi]; rfl
  have h2 : (va_pl L f)[j]? = some (L[j], f L[j]) := by unfold va_pl; rw [List.getElem?_map, List.getElem?_eq_getElem hj]; rfl
  have := h.1 i j _ _ h1 h2 e
  omega
theorem zD_of {A : Nat → Prop} {L : List Nat} {f : Nat → va_E} (h : L.Nodup) (hA : ∀ a ∈ L, A a) : va_D A (va_pl L f) := by
  have hg : ∀ (i : Nat) (q : Nat × va_E), (va_pl L f)[i]? = some q → L[i]? = some q.1 := by
    intro i q hq
    unfold va_pl at hq
    rw [List.getElem?_map] at hq
    cases hL : L[i]? with
    | none => rw [hL] at hq; cases hq
    | some a => rw [hL] at hq; cases hq; rfl
  refine ⟨fun i j p q hp hq hpq => ?_, fun k q hk => hA _ (List.mem_of_getElem? (hg k q hk))⟩
  have h1 := hg i p hp
  have h2 := hg j q hq
  rw [← hpq] at h2
  obtain ⟨l1, e1⟩ := List.getElem?_eq_some_iff.mp h1
  obtain ⟨l2, e2⟩ := List.getElem?_eq_some_iff.mp h2
  unfold List.Nodup at h
  rw [List.pairwise_iff_getElem] at h
  rcases Nat.lt_trichotomy i j with q1 | q1 | q1
  · exact absurd (e1.trans e2.symm) (h i j l1 l2 q1)
  · exact q1
  · exact absurd (e2.trans e1.symm) (h j i l2 l1 q1)
section ZMr
variable {p : Program} {l : Launch} {e : Env} {R : Room} {s : State} {m : MethodId} {args : Array Value} {below : List Frame} {meth : Method} {c : Code} {H : Heap} {locs : List Loc} {cells slots : Nat} {Q : State → Prop}
variable {cc : ByteArray} {nL pc : Nat} {ret : Option FieldType} {own : String} {Ts : List Cond} {ls : Array Slot} {rest : List Value} {D : va_G} {tys : List (ClassId × FieldType)} {L : List Nat} {A : Nat → Prop} {f g : Nat → va_E} {H0 : Heap} {a sz k0 : Nat}
def zadd (f : Nat → va_E) (b n : Nat) (x : Nat → va_E) : Nat → va_E := fun q => if b ≤ q ∧ q < b + n then x (q - b) else f q
theorem zadd_in {f : Nat → va_E} {b n i : Nat} {x : Nat → va_E} (h : i < n) : zadd f b n x (b + i) = x i := by
  unfold zadd
  rw [if_pos (by omega), show b + i - b = i by omega]
theorem zadd_out {f : Nat → va_E} {b n q : Nat} {x : Nat → va_E} (h : ¬ (b ≤ q ∧ q < b + n)) : zadd f b n x q = f q := if_neg h
theorem zN.pushes (h : zN D tys L A s f H0 H locs sz k0) {H1 : Heap} {x : Nat → va_E} (n : Nat) (o1 : ∀ q : Nat, q < H.size → H1[q]? = H[q]?) (hz : H1.size = H.size + n) (hx : ∀ i, i < n → va_at D vwCl (sz + k0 + i, x i) H1) : zN D tys L A s (zadd f (sz + k0) n x) H0 H1 locs sz (k0 + n) := by
  obtain ⟨⟨h1, h2, h3, h4, h5, h6⟩, hs⟩ := h
  have hlt : ∀ b, b ∈ L ++ List.range' sz k0 → b < sz + k0 := fun b hb => by
    obtain ⟨k, hk⟩ := zpl_at (D := D) (f := f) hb
    have := (h1 k _ hk).lt
    have h9 : b < H.size := this
    omega
  refine ⟨⟨fun k q hk => ?_, ?_, ⟨Nat.le_trans h3.1 (by omega), fun q q1 q2 => (o1 q (Nat.lt_of_lt_of_le q1 h3.1)).trans (h3.2.1 q q1 q2), h3.2.2⟩, h4, fun b hb => ?_, h6⟩, by omega⟩
  · have hm : q.1 ∈ L ++ List.range' sz (k0 + n) ∧ q.2 = zadd f (sz + k0) n x q.1 := by
      unfold va_pl at hk
      rw [List.getElem?_map] at hk
      cases hL : (L ++ List.range' sz (k0 + n))[k]? with
      | none => rw [hL] at hk; cases hk
      | some b => rw [hL] at hk; cases hk; exact ⟨List.mem_of_getElem? hL, rfl⟩
    obtain ⟨b, y⟩ := q
    obtain ⟨hm1, hm2⟩ := hm
    have hm2 : y = zadd f (sz + k0) n x b := hm2
    have hm1 : b ∈ L ++ List.range' sz (k0 + n) := hm1
    rw [← zrange2] at hm1
    rcases List.mem_append.mp hm1 with hb | hb
    · have hb2 := hlt b hb
      rw [hm2, zadd_out (by omega)]
      obtain ⟨k9, hk9⟩ := zpl_at (D := D) (f := f) hb
      exact (h1 k9 _ hk9).kept (o1 b (by rw [hs]; exact hb2))
    · rw [List.mem_range'_1] at hb
      obtain ⟨i, hi⟩ : ∃ i, b = sz + k0 + i := ⟨b - (sz + k0), by omega⟩
      rw [hi] at hm2 ⊢
      rw [zadd_in (by omega)] at hm2
      rw [hm2]
      exact hx i (by omega)
  · refine zD_of ?_ (fun b hb => ?_)
    · rw [← zrange2]
      refine List.nodup_append.mpr ⟨zD_nodup h2, List.nodup_range', fun b hb q hq e => ?_⟩
      have := hlt b hb
      rw [List.mem_range'_1] at hq
      omega
    · rw [← zrange2] at hb
      rcases List.mem_append.mp hb with hb | hb
      · obtain ⟨k, hk⟩ := zpl_at (D := D) (f := f) hb
        exact h2.2 k _ hk
      · rw [List.mem_range'_1] at hb
        exact h6.1 b (by have := h3.1; omega)
  · rw [← zrange2]
    by_cases hb2 : sz + k0 ≤ b ∧ b < sz + k0 + n
    · exact List.mem_append_right _ (List.mem_range'_1.mpr (by omega))
    · rw [zadd_out hb2] at hb
      exact List.mem_append_left _ (h5 b hb)
/-- new int[n][k] -/
theorem zn_mna (C : zC p s m args meth c cc nL ret own Ts) (hN : zN D tys L A s f H0 H locs sz k0) {index : Nat} (hcl : Cond.classLink own index ("[" ++ (FieldType.array .int).toString) ∈ Ts) (harr : Cond.arrayClass .int ∈ Ts) (tm ti : Nat) {cM cI : ClassId} (htm : tys[tm]? = some (cM, .array .int)) (hti : tys[ti]? = some (cI, .int)) (N K : Nat) (hN0 : N ≤ 100000) (hK0 : K ≤ 100000) (hcells : cells + (1 + N) ≤ R.cells) (hslots : slots + (N + N * K) ≤ R.slots) (hdg : decode cc pc = .ok (.multianewarray index 2, 4))
    (kk : ∀ (H1 : Heap), zN D tys L A s (zadd f (sz + k0) (N + 1) (fun i => if i = 0 then zAR cM N (fun j => some (sz + k0 + 1 + j)) else zA cI K (zone 0))) H0 H1 locs sz (k0 + (N + 1)) → W p l e R s m args below meth c H1 locs (cells + 1 + N) (slots + N + N * K) Q (F0 m (pc + 4) ls (.ref (sz + k0) :: rest))) : W p l e R s m args below meth c H locs cells slots Q (F0 m pc ls (.int (zI K) :: .int (zI N) :: rest)) := by
  have e1 : (zI (N : Int)).toNatClampNeg = N := by rw [zI_clamp (by omega) (by omega)]; exact Int.toNat_natCast N
  have e2 : (zI (K : Int)).toNatClampNeg = K := by rw [zI_clamp (by omega) (by omega)]; exact Int.toNat_natCast K
  have nn : ∀ {z : Int}, 0 ≤ z → z ≤ 2147483647 → ¬ zI z < 0 := fun h1 h2 q => by
    rw [show (0 : Int32) = zI 0 from rfl, zI_lt (by omega) h2 (by omega) (by omega)] at q
    omega
  intro T hT Xs
  obtain ⟨vm₁, cA, comp, -, fA, fC, hO, -, X', step⟩ := Xs.multianewarray2F C.1 C.2.2.2.1 (C.at hcl) (C.2.2.2.2.2.2.2.2.2.2.1) (C.at harr) (g := F0 m pc ls (.int (zI K) :: .int (zI N) :: rest)) rfl (by rw [C.2.1]; exact hdg) rfl (nn (by omega) (by omega)) (nn (by omega) (by omega)) (by rw [e1]; omega) (by rw [e2]; show K * 4 ≤ _; omega) (by rw [e2]; omega) rfl rfl (by rw [e1]; exact hcells) (by rw [e1, e2]; exact hslots)
  rw [e1, e2] at X' step
  have hcM : cA = cM := by
    have h9 := (hN.1.2.2.2.1.2 tm _ htm).2
    exact Option.some.inj (fA.symm.trans h9)
  have hcI : comp = cI := by
    have h9 := (hN.1.2.2.2.1.2 ti _ hti).2
    exact Option.some.inj (fC.symm.trans h9)
  subst hcM
  subst hcI
  generalize hF : Jvm.Free.Multi.fill (T.setVm vm₁) cA comp N K (defaultValue .int) N = F at X' step
  have hTh : (T.setVm vm₁).heap = H := hT
  obtain ⟨f1, f2, -, -⟩ := Jvm.Free.Multi.fill_facts (T.setVm vm₁) cA comp N K (defaultValue .int) N
  rw [hF, hTh] at f1 f2
  have hold : ∀ x : Nat, x < H.size → F.heap[x]? = H[x]? := fun x hx => by
    have := Jvm.Free.Multi.fill_old (T.setVm vm₁) cA comp N K (defaultValue .int) (a := x) (by rw [hTh]; exact hx) N
    rw [hF, hTh] at this
    exact this
  have hrow : ∀ j : Nat, j < N → F.heap[H.size + 1 + j]? = some (Jvm.Free.Multi.innerC comp K (defaultValue .int)) := fun j hj => by
    have := Jvm.Free.Multi.fill_inner (T.setVm vm₁) cA comp N K (defaultValue .int) N j hj
    rw [hF, hTh] at this
    exact this
  have hN2 := hN.pushes (H1 := F.heap) (x := fun i => if i = 0 then zAR cA N (fun j => some (sz + k0 + 1 + j)) else zA comp K (zone 0)) (N + 1) hold (by omega) (fun i hi => by
    by_cases h0 : i = 0
    · subst h0
      rw [if_pos rfl]
      show F.heap[sz + k0 + 0]? = some (vp_cell _ _)
      rw [Nat.add_zero, ← hN.2, f2, vp_cell_q, zmn_outer]
      congr 1
      unfold arrV
      congr 2
      funext j
      show va_rf (if j.val < N then some (H.size + 1 + j.val) else none) = va_rf (some (H.size + 1 + j.val))
      rw [if_pos j.isLt]
    · rw [if_neg h0]
      show F.heap[sz + k0 + i]? = some (vp_cell _ _)
      rw [show sz + k0 + i = H.size + 1 + (i - 1) by rw [hN.2]; omega, hrow _ (by omega), vp_cell_i]
      show some ({ cls := comp, slots := Array.replicate K (defaultValue .int), vm := .none } : Cell) = some (arrV comp K (fun j => Value.int ((fun k => zI (zone 0 k)) j)))
      rw [arrV_new, zz0]
      rfl)
  obtain ⟨t, a1, b1⟩ := kk F.heap hN2 F rfl X'
  refine ⟨t, step t ?_, b1⟩
  rw [show T.heap.size = sz + k0 by rw [hT]; exact hN.2]
  exact a1
end ZMr
end ZMn
